/-! WAYS of the class's machine: every call is a hypothesis -/
theorem ml_194 : sm_ml 194 = 4 := by decide +kernel
theorem dc_194_0 : decode (sm_cc 194) 0 = .ok (.aload_n 0, 1) := by decide +kernel
theorem dc_194_1 : decode (sm_cc 194) 1 = .ok (.getfield 15, 3) := by decide +kernel
theorem fr_194_15 : sm_at mt_f (sm_ow 194) 15 = some (15, 6, 1, 0, 827) := by decide +kernel
theorem dc_194_4 : decode (sm_cc 194) 4 = .ok (.iconst 1, 1) := by decide +kernel
theorem dc_194_5 : decode (sm_cc 194) 5 = .ok (.iconst 1, 1) := by decide +kernel
theorem dc_194_6 : decode (sm_cc 194) 6 = .ok (.invokevirtual 133, 3) := by decide +kernel
theorem kr_194_133 : sm_at mt_k (sm_ow 194) 133 = some (133, 1, 152, 1, 1648) := by decide +kernel
theorem dc_194_9 : decode (sm_cc 194) 9 = .ok (.istore_n 1, 1) := by decide +kernel
theorem dc_194_10 : decode (sm_cc 194) 10 = .ok (.aload_n 0, 1) := by decide +kernel
theorem dc_194_11 : decode (sm_cc 194) 11 = .ok (.getfield 15, 3) := by decide +kernel
theorem dc_194_14 : decode (sm_cc 194) 14 = .ok (.iconst 0, 1) := by decide +kernel
theorem dc_194_15 : decode (sm_cc 194) 15 = .ok (.iconst 1, 1) := by decide +kernel
theorem dc_194_16 : decode (sm_cc 194) 16 = .ok (.invokevirtual 133, 3) := by decide +kernel
theorem dc_194_19 : decode (sm_cc 194) 19 = .ok (.istore_n 2, 1) := by decide +kernel
theorem dc_194_20 : decode (sm_cc 194) 20 = .ok (.iload_n 1, 1) := by decide +kernel
theorem dc_194_21 : decode (sm_cc 194) 21 = .ok (.ifCond .eq (7), 3) := by decide +kernel
theorem dc_194_28 : decode (sm_cc 194) 28 = .ok (.iconst 2, 1) := by decide +kernel
theorem dc_194_29 : decode (sm_cc 194) 29 = .ok (.ireturn, 1) := by decide +kernel
theorem rt_194 : sm_rt 194 = some .int := by decide +kernel
theorem dc_194_24 : decode (sm_cc 194) 24 = .ok (.iload_n 2, 1) := by decide +kernel
theorem dc_194_25 : decode (sm_cc 194) 25 = .ok (.ifCond .ne (5), 3) := by decide +kernel
theorem dc_194_30 : decode (sm_cc 194) 30 = .ok (.aload_n 0, 1) := by decide +kernel
theorem dc_194_31 : decode (sm_cc 194) 31 = .ok (.getfield 9, 3) := by decide +kernel
theorem fr_194_9 : sm_at mt_f (sm_ow 194) 9 = some (9, 6, 0, 0, 826) := by decide +kernel
theorem dc_194_34 : decode (sm_cc 194) 34 = .ok (.iload_n 1, 1) := by decide +kernel
theorem dc_194_35 : decode (sm_cc 194) 35 = .ok (.invokevirtual 136, 3) := by decide +kernel
theorem kr_194_136 : sm_at mt_k (sm_ow 194) 136 = some (136, 1, 140, 1, 1649) := by decide +kernel
theorem dc_194_38 : decode (sm_cc 194) 38 = .ok (.aload_n 0, 1) := by decide +kernel
theorem dc_194_39 : decode (sm_cc 194) 39 = .ok (.getfield 9, 3) := by decide +kernel
theorem dc_194_42 : decode (sm_cc 194) 42 = .ok (.iload_n 2, 1) := by decide +kernel
theorem dc_194_43 : decode (sm_cc 194) 43 = .ok (.invokevirtual 136, 3) := by decide +kernel
theorem dc_194_46 : decode (sm_cc 194) 46 = .ok (.iadd, 1) := by decide +kernel
theorem dc_194_47 : decode (sm_cc 194) 47 = .ok (.sipush (300), 3) := by decide +kernel
theorem dc_194_50 : decode (sm_cc 194) 50 = .ok (.if_icmp .le (6), 3) := by decide +kernel
theorem dc_194_56 : decode (sm_cc 194) 56 = .ok (.aload_n 0, 1) := by decide +kernel
theorem dc_194_57 : decode (sm_cc 194) 57 = .ok (.getfield 9, 3) := by decide +kernel
theorem dc_194_60 : decode (sm_cc 194) 60 = .ok (.iconst 1, 1) := by decide +kernel
theorem dc_194_61 : decode (sm_cc 194) 61 = .ok (.invokevirtual 139, 3) := by decide +kernel
theorem kr_194_139 : sm_at mt_k (sm_ow 194) 139 = some (139, 1, 178, 1, 1650) := by decide +kernel
theorem dc_194_64 : decode (sm_cc 194) 64 = .ok (.istore_n 3, 1) := by decide +kernel
theorem dc_194_65 : decode (sm_cc 194) 65 = .ok (.iload_n 3, 1) := by decide +kernel
theorem dc_194_66 : decode (sm_cc 194) 66 = .ok (.ifCond .ne (6), 3) := by decide +kernel
theorem dc_194_72 : decode (sm_cc 194) 72 = .ok (.aload_n 0, 1) := by decide +kernel
theorem dc_194_73 : decode (sm_cc 194) 73 = .ok (.getfield 9, 3) := by decide +kernel
theorem dc_194_76 : decode (sm_cc 194) 76 = .ok (.iload_n 3, 1) := by decide +kernel
theorem dc_194_77 : decode (sm_cc 194) 77 = .ok (.iload_n 1, 1) := by decide +kernel
theorem dc_194_78 : decode (sm_cc 194) 78 = .ok (.invokevirtual 142, 3) := by decide +kernel
theorem ow_195 : 2 = sm_ow 195 := by decide +kernel
theorem kr_194_142 : sm_at mt_k (sm_ow 194) 142 = some (142, 1, 195, 1, 1651) := by decide +kernel
theorem np_195 : sm_np 195 = 2 := by decide +kernel
theorem dc_194_81 : decode (sm_cc 194) 81 = .ok (.aload_n 0, 1) := by decide +kernel
theorem dc_194_82 : decode (sm_cc 194) 82 = .ok (.getfield 9, 3) := by decide +kernel
theorem dc_194_85 : decode (sm_cc 194) 85 = .ok (.iload_n 3, 1) := by decide +kernel
theorem dc_194_86 : decode (sm_cc 194) 86 = .ok (.iload_n 2, 1) := by decide +kernel
theorem dc_194_87 : decode (sm_cc 194) 87 = .ok (.invokevirtual 142, 3) := by decide +kernel
theorem dc_194_90 : decode (sm_cc 194) 90 = .ok (.aload_n 0, 1) := by decide +kernel
theorem dc_194_91 : decode (sm_cc 194) 91 = .ok (.getfield 15, 3) := by decide +kernel
theorem dc_194_94 : decode (sm_cc 194) 94 = .ok (.iconst 2, 1) := by decide +kernel
theorem dc_194_95 : decode (sm_cc 194) 95 = .ok (.ldc2_w 146, 3) := by decide +kernel
theorem cj_194_146 : sm_at mt_cj (sm_ow 194) 146 = some (146, (4611686018427387904), 1659) := by decide +kernel
theorem dc_194_98 : decode (sm_cc 194) 98 = .ok (.iload_n 3, 1) := by decide +kernel
theorem dc_194_99 : decode (sm_cc 194) 99 = .ok (.i2l, 1) := by decide +kernel
theorem dc_194_100 : decode (sm_cc 194) 100 = .ok (.invokevirtual 31, 3) := by decide +kernel
theorem kr_194_31 : sm_at mt_k (sm_ow 194) 31 = some (31, 1, 148, 1, 1621) := by decide +kernel
theorem dc_194_103 : decode (sm_cc 194) 103 = .ok (.ireturn, 1) := by decide +kernel
theorem dc_194_69 : decode (sm_cc 194) 69 = .ok (.bipush (8), 2) := by decide +kernel
theorem dc_194_71 : decode (sm_cc 194) 71 = .ok (.ireturn, 1) := by decide +kernel
theorem dc_194_53 : decode (sm_cc 194) 53 = .ok (.bipush (8), 2) := by decide +kernel
theorem dc_194_55 : decode (sm_cc 194) 55 = .ok (.ireturn, 1) := by decide +kernel
theorem dc_246_31 : decode (sm_cc 246) 31 = .ok (.iconst 3, 1) := by decide +kernel
theorem dc_246_32 : decode (sm_cc 246) 32 = .ok (.ireturn, 1) := by decide +kernel
theorem mJl_1 {d : Nat} {S : cS} {S1 : cS} {a : Nat} {S2 : cS} {a1 : Nat} (ma : a < 2 ^ 20) (c1 : Ans (d + 8) 152 [.ref 46, .int (nI 1), .int (nI 1)] S (some (.int (nI a))) S1) (ma1 : a1 < 2 ^ 20) (c2 : Ans (d + 8) 152 [.ref 46, .int (nI 0), .int (nI 1)] S1 (some (.int (nI a1))) S2) (b1 : a = 0) : Bod (d + 8) 194 0 [(0, .ref 53)] [] S (some (.int (nI 2))) (S2) := by
  refine Bod.go dc_194_0 rfl ?_
  refine Bod.get dc_194_1 fr_194_15 (mk_53 _) rfl ?_
  refine Bod.ic 1 (by decide) dc_194_4 ?_
  refine Bod.ic 1 (by decide) dc_194_5 ?_
  refine Bod.virt (r := []) dc_194_6 kr_194_133 ⟨Or.inr rfl, ow_152, cl_9⟩ (by rw [np_152]; rfl) (by rw [np_152]; rfl) (ob_of (mk_46 _)) (Nat.le_of_ble_eq_true rfl) (c1  ) ?_
  show Bod _ _ _ _ [_] _ _ _
  refine Bod.istn dc_194_9 (by rw [ml_194]; exact Nat.le_of_ble_eq_true rfl) ?_
  refine Bod.go dc_194_10 rfl ?_
  refine Bod.get dc_194_11 fr_194_15 (mk_53 _) rfl ?_
  refine Bod.ic 0 (by decide) dc_194_14 ?_
  refine Bod.ic 1 (by decide) dc_194_15 ?_
  refine Bod.virt (r := []) dc_194_16 kr_194_133 ⟨Or.inr rfl, ow_152, cl_9⟩ (by rw [np_152]; rfl) (by rw [np_152]; rfl) (ob_of (mk_46 _)) (Nat.le_of_ble_eq_true rfl) (c2  ) ?_
  show Bod _ _ _ _ [_] _ _ _
  refine Bod.istn dc_194_19 (by rw [ml_194]; exact Nat.le_of_ble_eq_true rfl) ?_
  refine Bod.go dc_194_20 rfl ?_
  refine Bod.ifT dc_194_21 rfl (k1_eq_T (k_eq a 0 rfl rfl (by omega))) ?_
  refine Bod.ic 2 (by decide) dc_194_28 ?_
  exact Bod.retI dc_194_29 rt_194
theorem mJl_2 {d : Nat} {S : cS} {S1 : cS} {a : Nat} {S2 : cS} {a1 : Nat} {S3 : cS} {a2 : Nat} {S4 : cS} {a3 : Nat} {S5 : cS} {a4 : Nat} {S6 : cS} {S7 : cS} {S8 : cS} {rb : Int32} (ma : a < 2 ^ 20) (c1 : Ans (d + 8) 152 [.ref 46, .int (nI 1), .int (nI 1)] S (some (.int (nI a))) S1) (ma1 : a1 < 2 ^ 20) (c2 : Ans (d + 8) 152 [.ref 46, .int (nI 0), .int (nI 1)] S1 (some (.int (nI a1))) S2) (b1 : a ≠ 0) (b2 : a1 ≠ 0) (ma2 : a2 < 2 ^ 20) (c3 : Ans (d + 8) 140 [.ref 2, .int (nI a)] S2 (some (.int (nI a2))) S3) (ma3 : a3 < 2 ^ 20) (c4 : Ans (d + 8) 140 [.ref 2, .int (nI a1)] S3 (some (.int (nI a3))) S4) (b3 : (a2 + a3) ≤ 300) (ma4 : a4 < 2 ^ 20) (c5 : Ans (d + 8) 178 [.ref 2, .int (nI 1)] S4 (some (.int (nI a4))) S5) (b4 : a4 ≠ 0) (c6 : Ans (d + 8) 195 [.ref 2, .int (nI a4), .int (nI a)] S5 none S6) (c7 : Ans (d + 8) 195 [.ref 2, .int (nI a4), .int (nI a1)] S6 none S7) (c8 : Ans (d + 8) 148 [.ref 46, .int (nI 2), .long ((4611686018427387904)), .long ((nI a4).toInt64)] S7 (some (.int rb)) S8) : Bod (d + 8) 194 0 [(0, .ref 53)] [] S (some (.int rb)) (S8) := by
  refine Bod.go dc_194_0 rfl ?_
  refine Bod.get dc_194_1 fr_194_15 (mk_53 _) rfl ?_
  refine Bod.ic 1 (by decide) dc_194_4 ?_
  refine Bod.ic 1 (by decide) dc_194_5 ?_
  refine Bod.virt (r := []) dc_194_6 kr_194_133 ⟨Or.inr rfl, ow_152, cl_9⟩ (by rw [np_152]; rfl) (by rw [np_152]; rfl) (ob_of (mk_46 _)) (Nat.le_of_ble_eq_true rfl) (c1  ) ?_
  show Bod _ _ _ _ [_] _ _ _
  refine Bod.istn dc_194_9 (by rw [ml_194]; exact Nat.le_of_ble_eq_true rfl) ?_
  refine Bod.go dc_194_10 rfl ?_
  refine Bod.get dc_194_11 fr_194_15 (mk_53 _) rfl ?_
  refine Bod.ic 0 (by decide) dc_194_14 ?_
  refine Bod.ic 1 (by decide) dc_194_15 ?_
  refine Bod.virt (r := []) dc_194_16 kr_194_133 ⟨Or.inr rfl, ow_152, cl_9⟩ (by rw [np_152]; rfl) (by rw [np_152]; rfl) (ob_of (mk_46 _)) (Nat.le_of_ble_eq_true rfl) (c2  ) ?_
  show Bod _ _ _ _ [_] _ _ _
  refine Bod.istn dc_194_19 (by rw [ml_194]; exact Nat.le_of_ble_eq_true rfl) ?_
  refine Bod.go dc_194_20 rfl ?_
  refine Bod.ifF dc_194_21 rfl (k1_eq_F (k_ne a 0 rfl rfl (by omega) (by omega) (by omega))) ?_
  refine Bod.go dc_194_24 rfl ?_
  refine Bod.ifT dc_194_25 rfl (k1_ne_T (k_ne a1 0 rfl rfl (by omega) (by omega) (by omega))) ?_
  refine Bod.go dc_194_30 rfl ?_
  refine Bod.get dc_194_31 fr_194_9 (mk_53 _) rfl ?_
  refine Bod.go dc_194_34 rfl ?_
  refine Bod.virt (r := []) dc_194_35 kr_194_136 ⟨Or.inr rfl, ow_140, cl_2⟩ (by rw [np_140]; rfl) (by rw [np_140]; rfl) (ob_of (mk_2 _)) (Nat.le_of_ble_eq_true rfl) (c3  ) ?_
  show Bod _ _ _ _ [_] _ _ _
  refine Bod.go dc_194_38 rfl ?_
  refine Bod.get dc_194_39 fr_194_9 (mk_53 _) rfl ?_
  refine Bod.go dc_194_42 rfl ?_
  refine Bod.virt (r := [_]) dc_194_43 kr_194_136 ⟨Or.inr rfl, ow_140, cl_2⟩ (by rw [np_140]; rfl) (by rw [np_140]; rfl) (ob_of (mk_2 _)) (Nat.le_of_ble_eq_true rfl) (c4  ) ?_
  show Bod _ _ _ _ [_, _] _ _ _
  refine Bod.addN (a2 + a3) (by omega) dc_194_46 ?_
  refine Bod.sip 300 (by decide) dc_194_47 ?_
  refine Bod.icT dc_194_50 rfl (k2_le_T (a2 + a3) 300 rfl rfl (by omega) (by omega)) ?_
  refine Bod.go dc_194_56 rfl ?_
  refine Bod.get dc_194_57 fr_194_9 (mk_53 _) rfl ?_
  refine Bod.ic 1 (by decide) dc_194_60 ?_
  refine Bod.virt (r := []) dc_194_61 kr_194_139 ⟨Or.inr rfl, ow_178, cl_2⟩ (by rw [np_178]; rfl) (by rw [np_178]; rfl) (ob_of (mk_2 _)) (Nat.le_of_ble_eq_true rfl) (c5  ) ?_
  show Bod _ _ _ _ [_] _ _ _
  refine Bod.istn dc_194_64 (by rw [ml_194]; exact Nat.le_of_ble_eq_true rfl) ?_
  refine Bod.go dc_194_65 rfl ?_
  refine Bod.ifT dc_194_66 rfl (k1_ne_T (k_ne a4 0 rfl rfl (by omega) (by omega) (by omega))) ?_
  refine Bod.go dc_194_72 rfl ?_
  refine Bod.get dc_194_73 fr_194_9 (mk_53 _) rfl ?_
  refine Bod.go dc_194_76 rfl ?_
  refine Bod.go dc_194_77 rfl ?_
  refine Bod.virt (r := []) dc_194_78 kr_194_142 ⟨Or.inr rfl, ow_195, cl_2⟩ (by rw [np_195]; rfl) (by rw [np_195]; rfl) (ob_of (mk_2 _)) (Nat.le_of_ble_eq_true rfl) (c6  ) ?_
  show Bod _ _ _ _ [] _ _ _
  refine Bod.go dc_194_81 rfl ?_
  refine Bod.get dc_194_82 fr_194_9 (mk_53 _) rfl ?_
  refine Bod.go dc_194_85 rfl ?_
  refine Bod.go dc_194_86 rfl ?_
  refine Bod.virt (r := []) dc_194_87 kr_194_142 ⟨Or.inr rfl, ow_195, cl_2⟩ (by rw [np_195]; rfl) (by rw [np_195]; rfl) (ob_of (mk_2 _)) (Nat.le_of_ble_eq_true rfl) (c7  ) ?_
  show Bod _ _ _ _ [] _ _ _
  refine Bod.go dc_194_90 rfl ?_
  refine Bod.get dc_194_91 fr_194_15 (mk_53 _) rfl ?_
  refine Bod.ic 2 (by decide) dc_194_94 ?_
  refine Bod.ldc2 dc_194_95 cj_194_146 ?_
  refine Bod.go dc_194_98 rfl ?_
  refine Bod.go dc_194_99 rfl ?_
  refine Bod.virt (r := []) dc_194_100 kr_194_31 ⟨Or.inr rfl, ow_148, cl_9⟩ (by rw [np_148]; rfl) (by rw [np_148]; rfl) (ob_of (mk_46 _)) (Nat.le_of_ble_eq_true rfl) (c8  ) ?_
  show Bod _ _ _ _ [_] _ _ _
  exact Bod.retI dc_194_103 rt_194
theorem mJl_3 {d : Nat} {S : cS} {S1 : cS} {a : Nat} {S2 : cS} {a1 : Nat} {S3 : cS} {a2 : Nat} {S4 : cS} {a3 : Nat} {S5 : cS} {a4 : Nat} (ma : a < 2 ^ 20) (c1 : Ans (d + 8) 152 [.ref 46, .int (nI 1), .int (nI 1)] S (some (.int (nI a))) S1) (ma1 : a1 < 2 ^ 20) (c2 : Ans (d + 8) 152 [.ref 46, .int (nI 0), .int (nI 1)] S1 (some (.int (nI a1))) S2) (b1 : a ≠ 0) (b2 : a1 ≠ 0) (ma2 : a2 < 2 ^ 20) (c3 : Ans (d + 8) 140 [.ref 2, .int (nI a)] S2 (some (.int (nI a2))) S3) (ma3 : a3 < 2 ^ 20) (c4 : Ans (d + 8) 140 [.ref 2, .int (nI a1)] S3 (some (.int (nI a3))) S4) (b3 : (a2 + a3) ≤ 300) (ma4 : a4 < 2 ^ 20) (c5 : Ans (d + 8) 178 [.ref 2, .int (nI 1)] S4 (some (.int (nI a4))) S5) (b4 : a4 = 0) : Bod (d + 8) 194 0 [(0, .ref 53)] [] S (some (.int (nI 8))) (S5) := by
  refine Bod.go dc_194_0 rfl ?_
  refine Bod.get dc_194_1 fr_194_15 (mk_53 _) rfl ?_
  refine Bod.ic 1 (by decide) dc_194_4 ?_
  refine Bod.ic 1 (by decide) dc_194_5 ?_
  refine Bod.virt (r := []) dc_194_6 kr_194_133 ⟨Or.inr rfl, ow_152, cl_9⟩ (by rw [np_152]; rfl) (by rw [np_152]; rfl) (ob_of (mk_46 _)) (Nat.le_of_ble_eq_true rfl) (c1  ) ?_
  show Bod _ _ _ _ [_] _ _ _
  refine Bod.istn dc_194_9 (by rw [ml_194]; exact Nat.le_of_ble_eq_true rfl) ?_
  refine Bod.go dc_194_10 rfl ?_
  refine Bod.get dc_194_11 fr_194_15 (mk_53 _) rfl ?_
  refine Bod.ic 0 (by decide) dc_194_14 ?_
  refine Bod.ic 1 (by decide) dc_194_15 ?_
  refine Bod.virt (r := []) dc_194_16 kr_194_133 ⟨Or.inr rfl, ow_152, cl_9⟩ (by rw [np_152]; rfl) (by rw [np_152]; rfl) (ob_of (mk_46 _)) (Nat.le_of_ble_eq_true rfl) (c2  ) ?_
  show Bod _ _ _ _ [_] _ _ _
  refine Bod.istn dc_194_19 (by rw [ml_194]; exact Nat.le_of_ble_eq_true rfl) ?_
  refine Bod.go dc_194_20 rfl ?_
  refine Bod.ifF dc_194_21 rfl (k1_eq_F (k_ne a 0 rfl rfl (by omega) (by omega) (by omega))) ?_
  refine Bod.go dc_194_24 rfl ?_
  refine Bod.ifT dc_194_25 rfl (k1_ne_T (k_ne a1 0 rfl rfl (by omega) (by omega) (by omega))) ?_
  refine Bod.go dc_194_30 rfl ?_
  refine Bod.get dc_194_31 fr_194_9 (mk_53 _) rfl ?_
  refine Bod.go dc_194_34 rfl ?_
  refine Bod.virt (r := []) dc_194_35 kr_194_136 ⟨Or.inr rfl, ow_140, cl_2⟩ (by rw [np_140]; rfl) (by rw [np_140]; rfl) (ob_of (mk_2 _)) (Nat.le_of_ble_eq_true rfl) (c3  ) ?_
  show Bod _ _ _ _ [_] _ _ _
  refine Bod.go dc_194_38 rfl ?_
  refine Bod.get dc_194_39 fr_194_9 (mk_53 _) rfl ?_
  refine Bod.go dc_194_42 rfl ?_
  refine Bod.virt (r := [_]) dc_194_43 kr_194_136 ⟨Or.inr rfl, ow_140, cl_2⟩ (by rw [np_140]; rfl) (by rw [np_140]; rfl) (ob_of (mk_2 _)) (Nat.le_of_ble_eq_true rfl) (c4  ) ?_
  show Bod _ _ _ _ [_, _] _ _ _
  refine Bod.addN (a2 + a3) (by omega) dc_194_46 ?_
  refine Bod.sip 300 (by decide) dc_194_47 ?_
  refine Bod.icT dc_194_50 rfl (k2_le_T (a2 + a3) 300 rfl rfl (by omega) (by omega)) ?_
  refine Bod.go dc_194_56 rfl ?_
  refine Bod.get dc_194_57 fr_194_9 (mk_53 _) rfl ?_
  refine Bod.ic 1 (by decide) dc_194_60 ?_
  refine Bod.virt (r := []) dc_194_61 kr_194_139 ⟨Or.inr rfl, ow_178, cl_2⟩ (by rw [np_178]; rfl) (by rw [np_178]; rfl) (ob_of (mk_2 _)) (Nat.le_of_ble_eq_true rfl) (c5  ) ?_
  show Bod _ _ _ _ [_] _ _ _
  refine Bod.istn dc_194_64 (by rw [ml_194]; exact Nat.le_of_ble_eq_true rfl) ?_
  refine Bod.go dc_194_65 rfl ?_
  refine Bod.ifF dc_194_66 rfl (k1_ne_F (k_eq a4 0 rfl rfl (by omega))) ?_
  refine Bod.bip 8 (by decide) dc_194_69 ?_
  exact Bod.retI dc_194_71 rt_194
theorem mJl_4 {d : Nat} {S : cS} {S1 : cS} {a : Nat} {S2 : cS} {a1 : Nat} {S3 : cS} {a2 : Nat} {S4 : cS} {a3 : Nat} (ma : a < 2 ^ 20) (c1 : Ans (d + 8) 152 [.ref 46, .int (nI 1), .int (nI 1)] S (some (.int (nI a))) S1) (ma1 : a1 < 2 ^ 20) (c2 : Ans (d + 8) 152 [.ref 46, .int (nI 0), .int (nI 1)] S1 (some (.int (nI a1))) S2) (b1 : a ≠ 0) (b2 : a1 ≠ 0) (ma2 : a2 < 2 ^ 20) (c3 : Ans (d + 8) 140 [.ref 2, .int (nI a)] S2 (some (.int (nI a2))) S3) (ma3 : a3 < 2 ^ 20) (c4 : Ans (d + 8) 140 [.ref 2, .int (nI a1)] S3 (some (.int (nI a3))) S4) (b3 : 300 < (a2 + a3)) : Bod (d + 8) 194 0 [(0, .ref 53)] [] S (some (.int (nI 8))) (S4) := by
  refine Bod.go dc_194_0 rfl ?_
  refine Bod.get dc_194_1 fr_194_15 (mk_53 _) rfl ?_
  refine Bod.ic 1 (by decide) dc_194_4 ?_
  refine Bod.ic 1 (by decide) dc_194_5 ?_
  refine Bod.virt (r := []) dc_194_6 kr_194_133 ⟨Or.inr rfl, ow_152, cl_9⟩ (by rw [np_152]; rfl) (by rw [np_152]; rfl) (ob_of (mk_46 _)) (Nat.le_of_ble_eq_true rfl) (c1  ) ?_
  show Bod _ _ _ _ [_] _ _ _
  refine Bod.istn dc_194_9 (by rw [ml_194]; exact Nat.le_of_ble_eq_true rfl) ?_
  refine Bod.go dc_194_10 rfl ?_
  refine Bod.get dc_194_11 fr_194_15 (mk_53 _) rfl ?_
  refine Bod.ic 0 (by decide) dc_194_14 ?_
  refine Bod.ic 1 (by decide) dc_194_15 ?_
  refine Bod.virt (r := []) dc_194_16 kr_194_133 ⟨Or.inr rfl, ow_152, cl_9⟩ (by rw [np_152]; rfl) (by rw [np_152]; rfl) (ob_of (mk_46 _)) (Nat.le_of_ble_eq_true rfl) (c2  ) ?_
  show Bod _ _ _ _ [_] _ _ _
  refine Bod.istn dc_194_19 (by rw [ml_194]; exact Nat.le_of_ble_eq_true rfl) ?_
  refine Bod.go dc_194_20 rfl ?_
  refine Bod.ifF dc_194_21 rfl (k1_eq_F (k_ne a 0 rfl rfl (by omega) (by omega) (by omega))) ?_
  refine Bod.go dc_194_24 rfl ?_
  refine Bod.ifT dc_194_25 rfl (k1_ne_T (k_ne a1 0 rfl rfl (by omega) (by omega) (by omega))) ?_
  refine Bod.go dc_194_30 rfl ?_
  refine Bod.get dc_194_31 fr_194_9 (mk_53 _) rfl ?_
  refine Bod.go dc_194_34 rfl ?_
  refine Bod.virt (r := []) dc_194_35 kr_194_136 ⟨Or.inr rfl, ow_140, cl_2⟩ (by rw [np_140]; rfl) (by rw [np_140]; rfl) (ob_of (mk_2 _)) (Nat.le_of_ble_eq_true rfl) (c3  ) ?_
  show Bod _ _ _ _ [_] _ _ _
  refine Bod.go dc_194_38 rfl ?_
  refine Bod.get dc_194_39 fr_194_9 (mk_53 _) rfl ?_
  refine Bod.go dc_194_42 rfl ?_
  refine Bod.virt (r := [_]) dc_194_43 kr_194_136 ⟨Or.inr rfl, ow_140, cl_2⟩ (by rw [np_140]; rfl) (by rw [np_140]; rfl) (ob_of (mk_2 _)) (Nat.le_of_ble_eq_true rfl) (c4  ) ?_
  show Bod _ _ _ _ [_, _] _ _ _
  refine Bod.addN (a2 + a3) (by omega) dc_194_46 ?_
  refine Bod.sip 300 (by decide) dc_194_47 ?_
  refine Bod.icF dc_194_50 rfl (k2_le_F (a2 + a3) 300 rfl rfl (by omega) (by omega)) ?_
  refine Bod.bip 8 (by decide) dc_194_53 ?_
  exact Bod.retI dc_194_55 rt_194
theorem mJl_5 {d : Nat} {S : cS} {S1 : cS} {a : Nat} {S2 : cS} {a1 : Nat} (ma : a < 2 ^ 20) (c1 : Ans (d + 8) 152 [.ref 46, .int (nI 1), .int (nI 1)] S (some (.int (nI a))) S1) (ma1 : a1 < 2 ^ 20) (c2 : Ans (d + 8) 152 [.ref 46, .int (nI 0), .int (nI 1)] S1 (some (.int (nI a1))) S2) (b1 : a ≠ 0) (b2 : a1 = 0) : Bod (d + 8) 194 0 [(0, .ref 53)] [] S (some (.int (nI 2))) (S2) := by
  refine Bod.go dc_194_0 rfl ?_
  refine Bod.get dc_194_1 fr_194_15 (mk_53 _) rfl ?_
  refine Bod.ic 1 (by decide) dc_194_4 ?_
  refine Bod.ic 1 (by decide) dc_194_5 ?_
  refine Bod.virt (r := []) dc_194_6 kr_194_133 ⟨Or.inr rfl, ow_152, cl_9⟩ (by rw [np_152]; rfl) (by rw [np_152]; rfl) (ob_of (mk_46 _)) (Nat.le_of_ble_eq_true rfl) (c1  ) ?_
  show Bod _ _ _ _ [_] _ _ _
  refine Bod.istn dc_194_9 (by rw [ml_194]; exact Nat.le_of_ble_eq_true rfl) ?_
  refine Bod.go dc_194_10 rfl ?_
  refine Bod.get dc_194_11 fr_194_15 (mk_53 _) rfl ?_
  refine Bod.ic 0 (by decide) dc_194_14 ?_
  refine Bod.ic 1 (by decide) dc_194_15 ?_
  refine Bod.virt (r := []) dc_194_16 kr_194_133 ⟨Or.inr rfl, ow_152, cl_9⟩ (by rw [np_152]; rfl) (by rw [np_152]; rfl) (ob_of (mk_46 _)) (Nat.le_of_ble_eq_true rfl) (c2  ) ?_
  show Bod _ _ _ _ [_] _ _ _
  refine Bod.istn dc_194_19 (by rw [ml_194]; exact Nat.le_of_ble_eq_true rfl) ?_
  refine Bod.go dc_194_20 rfl ?_
  refine Bod.ifF dc_194_21 rfl (k1_eq_F (k_ne a 0 rfl rfl (by omega) (by omega) (by omega))) ?_
  refine Bod.go dc_194_24 rfl ?_
  refine Bod.ifF dc_194_25 rfl (k1_ne_F (k_eq a1 0 rfl rfl (by omega))) ?_
  refine Bod.ic 2 (by decide) dc_194_28 ?_
  exact Bod.retI dc_194_29 rt_194
theorem mPpZ_1 {d : Nat} {S : cS} {S1 : cS} {a : Nat} {S2 : cS} (ma : a < 2 ^ 20) (c1 : Ans (d + 8) 152 [.ref 46, .int (nI 0), .int (nI 1)] S (some (.int (nI a))) S1) (b1 : a ≠ 0) (c2 : Ans (d + 8) 140 [.ref 2, .int (nI a)] S1 (some (.int (nI 0))) S2) : Bod (d + 8) 246 0 [(0, .ref 49)] [] S (some (.int (nI 3))) (S2) := by
  refine Bod.go dc_246_0 rfl ?_
  refine Bod.get dc_246_1 fr_246_15 (mk_49 _) rfl ?_
  refine Bod.ic 0 (by decide) dc_246_4 ?_
  refine Bod.ic 1 (by decide) dc_246_5 ?_
  refine Bod.virt (r := []) dc_246_6 kr_246_114 ⟨Or.inr rfl, ow_152, cl_9⟩ (by rw [np_152]; rfl) (by rw [np_152]; rfl) (ob_of (mk_46 _)) (Nat.le_of_ble_eq_true rfl) (c1  ) ?_
  show Bod _ _ _ _ [_] _ _ _
  refine Bod.istn dc_246_9 (by rw [ml_246]; exact Nat.le_of_ble_eq_true rfl) ?_
  refine Bod.go dc_246_10 rfl ?_
  refine Bod.ifT dc_246_11 rfl (k1_ne_T (k_ne a 0 rfl rfl (by omega) (by omega) (by omega))) ?_
  refine Bod.go dc_246_16 rfl ?_
  refine Bod.get dc_246_17 fr_246_9 (mk_49 _) rfl ?_
  refine Bod.go dc_246_20 rfl ?_
  refine Bod.virt (r := []) dc_246_21 kr_246_97 ⟨Or.inr rfl, ow_140, cl_2⟩ (by rw [np_140]; rfl) (by rw [np_140]; rfl) (ob_of (mk_2 _)) (Nat.le_of_ble_eq_true rfl) (c2  ) ?_
  show Bod _ _ _ _ [_] _ _ _
  refine Bod.ic 1 (by decide) dc_246_24 ?_
  refine Bod.subM dc_246_25 ?_
  refine Bod.istn dc_246_26 (by rw [ml_246]; exact Nat.le_of_ble_eq_true rfl) ?_
  refine Bod.go dc_246_27 rfl ?_
  refine Bod.ifF dc_246_28 rfl (by decide) ?_
  refine Bod.ic 3 (by decide) dc_246_31 ?_
  exact Bod.retI dc_246_32 rt_246
theorem mPpZ_2 {d : Nat} {S : cS} {S1 : cS} {a : Nat} (ma : a < 2 ^ 20) (c1 : Ans (d + 8) 152 [.ref 46, .int (nI 0), .int (nI 1)] S (some (.int (nI a))) S1) (b1 : a = 0) : Bod (d + 8) 246 0 [(0, .ref 49)] [] S (some (.int (nI 2))) (S1) := by
  refine Bod.go dc_246_0 rfl ?_
  refine Bod.get dc_246_1 fr_246_15 (mk_49 _) rfl ?_
  refine Bod.ic 0 (by decide) dc_246_4 ?_
  refine Bod.ic 1 (by decide) dc_246_5 ?_
  refine Bod.virt (r := []) dc_246_6 kr_246_114 ⟨Or.inr rfl, ow_152, cl_9⟩ (by rw [np_152]; rfl) (by rw [np_152]; rfl) (ob_of (mk_46 _)) (Nat.le_of_ble_eq_true rfl) (c1  ) ?_
  show Bod _ _ _ _ [_] _ _ _
  refine Bod.istn dc_246_9 (by rw [ml_246]; exact Nat.le_of_ble_eq_true rfl) ?_
  refine Bod.go dc_246_10 rfl ?_
  refine Bod.ifF dc_246_11 rfl (k1_ne_F (k_eq a 0 rfl rfl (by omega))) ?_
  refine Bod.ic 2 (by decide) dc_246_14 ?_
  exact Bod.retI dc_246_15 rt_246
