/-! COMPARISON, A LIST of the reference: ways -/
theorem dc_310_0 : decode (sm_cc 310) 0 = .ok (.aload_n 0, 1) := by decide +kernel
theorem dc_310_1 : decode (sm_cc 310) 1 = .ok (.iload_n 1, 1) := by decide +kernel
theorem dc_310_2 : decode (sm_cc 310) 2 = .ok (.invokevirtual 406, 3) := by decide +kernel
theorem ow_311 : 14 = sm_ow 311 := by decide +kernel
theorem kr_310_406 : sm_at mt_k (sm_ow 310) 406 = some (406, 0, 311, 0, 2502) := by decide +kernel
theorem np_311 : sm_np 311 = 1 := by decide +kernel
theorem dc_310_5 : decode (sm_cc 310) 5 = .ok (.ifCond .ne (5), 3) := by decide +kernel
theorem ml_310 : sm_ml 310 = 3 := by decide +kernel
theorem dc_310_8 : decode (sm_cc 310) 8 = .ok (.iconst 0, 1) := by decide +kernel
theorem dc_310_9 : decode (sm_cc 310) 9 = .ok (.ireturn, 1) := by decide +kernel
theorem rt_310 : sm_rt 310 = some .boolean := by decide +kernel
theorem dc_310_10 : decode (sm_cc 310) 10 = .ok (.aload_n 0, 1) := by decide +kernel
theorem dc_310_11 : decode (sm_cc 310) 11 = .ok (.iconst 5, 1) := by decide +kernel
theorem dc_310_12 : decode (sm_cc 310) 12 = .ok (.invokevirtual 312, 3) := by decide +kernel
theorem kr_310_312 : sm_at mt_k (sm_ow 310) 312 = some (312, 0, 309, 0, 2494) := by decide +kernel
theorem dc_310_15 : decode (sm_cc 310) 15 = .ok (.ifCond .eq (7), 3) := by decide +kernel
theorem dc_310_18 : decode (sm_cc 310) 18 = .ok (.iconst 1, 1) := by decide +kernel
theorem dc_310_19 : decode (sm_cc 310) 19 = .ok (.goto (130), 3) := by decide +kernel
theorem dc_310_149 : decode (sm_cc 310) 149 = .ok (.istore_n 2, 1) := by decide +kernel
theorem dc_310_22 : decode (sm_cc 310) 22 = .ok (.aload_n 0, 1) := by decide +kernel
theorem dc_310_23 : decode (sm_cc 310) 23 = .ok (.bipush (20), 2) := by decide +kernel
theorem dc_310_25 : decode (sm_cc 310) 25 = .ok (.invokevirtual 312, 3) := by decide +kernel
theorem dc_310_28 : decode (sm_cc 310) 28 = .ok (.ifCond .eq (7), 3) := by decide +kernel
theorem dc_310_31 : decode (sm_cc 310) 31 = .ok (.iconst 2, 1) := by decide +kernel
theorem dc_310_32 : decode (sm_cc 310) 32 = .ok (.goto (117), 3) := by decide +kernel
theorem dc_310_35 : decode (sm_cc 310) 35 = .ok (.aload_n 0, 1) := by decide +kernel
theorem dc_310_36 : decode (sm_cc 310) 36 = .ok (.getfield 129, 3) := by decide +kernel
theorem fr_310_129 : sm_at mt_f (sm_ow 310) 129 = some (129, 14, 6, 0, 2079) := by decide +kernel
theorem dc_310_39 : decode (sm_cc 310) 39 = .ok (.aload_n 0, 1) := by decide +kernel
theorem dc_310_40 : decode (sm_cc 310) 40 = .ok (.getfield 190, 3) := by decide +kernel
theorem fr_310_190 : sm_at mt_f (sm_ow 310) 190 = some (190, 14, 15, 0, 2088) := by decide +kernel
theorem dc_310_43 : decode (sm_cc 310) 43 = .ok (.iaload, 1) := by decide +kernel
theorem dc_310_44 : decode (sm_cc 310) 44 = .ok (.iconst 5, 1) := by decide +kernel
theorem dc_310_45 : decode (sm_cc 310) 45 = .ok (.if_icmp .ne (103), 3) := by decide +kernel
theorem dc_310_148 : decode (sm_cc 310) 148 = .ok (.iconst 0, 1) := by decide +kernel
theorem dc_310_48 : decode (sm_cc 310) 48 = .ok (.aload_n 0, 1) := by decide +kernel
theorem dc_310_49 : decode (sm_cc 310) 49 = .ok (.getfield 135, 3) := by decide +kernel
theorem fr_310_135 : sm_at mt_f (sm_ow 310) 135 = some (135, 14, 7, 0, 2080) := by decide +kernel
theorem dc_310_52 : decode (sm_cc 310) 52 = .ok (.aload_n 0, 1) := by decide +kernel
theorem dc_310_53 : decode (sm_cc 310) 53 = .ok (.getfield 190, 3) := by decide +kernel
theorem dc_310_56 : decode (sm_cc 310) 56 = .ok (.iaload, 1) := by decide +kernel
theorem dc_310_57 : decode (sm_cc 310) 57 = .ok (.sipush (15677), 3) := by decide +kernel
theorem dc_310_60 : decode (sm_cc 310) 60 = .ok (.if_icmp .eq (76), 3) := by decide +kernel
theorem dc_310_136 : decode (sm_cc 310) 136 = .ok (.aload_n 0, 1) := by decide +kernel
theorem dc_310_137 : decode (sm_cc 310) 137 = .ok (.getfield 135, 3) := by decide +kernel
theorem dc_310_140 : decode (sm_cc 310) 140 = .ok (.aload_n 0, 1) := by decide +kernel
theorem dc_310_141 : decode (sm_cc 310) 141 = .ok (.getfield 190, 3) := by decide +kernel
theorem dc_310_144 : decode (sm_cc 310) 144 = .ok (.iaload, 1) := by decide +kernel
theorem dc_310_145 : decode (sm_cc 310) 145 = .ok (.goto (4), 3) := by decide +kernel
theorem dc_310_63 : decode (sm_cc 310) 63 = .ok (.aload_n 0, 1) := by decide +kernel
theorem dc_310_64 : decode (sm_cc 310) 64 = .ok (.getfield 135, 3) := by decide +kernel
theorem dc_310_67 : decode (sm_cc 310) 67 = .ok (.aload_n 0, 1) := by decide +kernel
theorem dc_310_68 : decode (sm_cc 310) 68 = .ok (.getfield 190, 3) := by decide +kernel
theorem dc_310_71 : decode (sm_cc 310) 71 = .ok (.iaload, 1) := by decide +kernel
theorem dc_310_72 : decode (sm_cc 310) 72 = .ok (.sipush (8509), 3) := by decide +kernel
theorem dc_310_75 : decode (sm_cc 310) 75 = .ok (.if_icmp .eq (61), 3) := by decide +kernel
theorem dc_310_78 : decode (sm_cc 310) 78 = .ok (.aload_n 0, 1) := by decide +kernel
theorem dc_310_79 : decode (sm_cc 310) 79 = .ok (.getfield 135, 3) := by decide +kernel
theorem dc_310_82 : decode (sm_cc 310) 82 = .ok (.aload_n 0, 1) := by decide +kernel
theorem dc_310_83 : decode (sm_cc 310) 83 = .ok (.getfield 190, 3) := by decide +kernel
theorem dc_310_86 : decode (sm_cc 310) 86 = .ok (.iaload, 1) := by decide +kernel
theorem dc_310_87 : decode (sm_cc 310) 87 = .ok (.sipush (15421), 3) := by decide +kernel
theorem dc_310_90 : decode (sm_cc 310) 90 = .ok (.if_icmp .eq (46), 3) := by decide +kernel
theorem dc_310_93 : decode (sm_cc 310) 93 = .ok (.aload_n 0, 1) := by decide +kernel
theorem dc_310_94 : decode (sm_cc 310) 94 = .ok (.getfield 135, 3) := by decide +kernel
theorem dc_310_97 : decode (sm_cc 310) 97 = .ok (.aload_n 0, 1) := by decide +kernel
theorem dc_310_98 : decode (sm_cc 310) 98 = .ok (.getfield 190, 3) := by decide +kernel
theorem dc_310_101 : decode (sm_cc 310) 101 = .ok (.iaload, 1) := by decide +kernel
theorem dc_310_102 : decode (sm_cc 310) 102 = .ok (.sipush (15933), 3) := by decide +kernel
theorem dc_310_105 : decode (sm_cc 310) 105 = .ok (.if_icmp .eq (31), 3) := by decide +kernel
theorem dc_310_108 : decode (sm_cc 310) 108 = .ok (.aload_n 0, 1) := by decide +kernel
theorem dc_310_109 : decode (sm_cc 310) 109 = .ok (.getfield 135, 3) := by decide +kernel
theorem dc_310_112 : decode (sm_cc 310) 112 = .ok (.aload_n 0, 1) := by decide +kernel
theorem dc_310_113 : decode (sm_cc 310) 113 = .ok (.getfield 190, 3) := by decide +kernel
theorem dc_310_116 : decode (sm_cc 310) 116 = .ok (.iaload, 1) := by decide +kernel
theorem dc_310_117 : decode (sm_cc 310) 117 = .ok (.bipush (60), 2) := by decide +kernel
theorem dc_310_119 : decode (sm_cc 310) 119 = .ok (.if_icmp .eq (17), 3) := by decide +kernel
theorem dc_310_122 : decode (sm_cc 310) 122 = .ok (.aload_n 0, 1) := by decide +kernel
theorem dc_310_123 : decode (sm_cc 310) 123 = .ok (.getfield 135, 3) := by decide +kernel
theorem dc_310_126 : decode (sm_cc 310) 126 = .ok (.aload_n 0, 1) := by decide +kernel
theorem dc_310_127 : decode (sm_cc 310) 127 = .ok (.getfield 190, 3) := by decide +kernel
theorem dc_310_130 : decode (sm_cc 310) 130 = .ok (.iaload, 1) := by decide +kernel
theorem dc_310_131 : decode (sm_cc 310) 131 = .ok (.bipush (62), 2) := by decide +kernel
theorem dc_310_133 : decode (sm_cc 310) 133 = .ok (.if_icmp .ne (15), 3) := by decide +kernel
theorem dc_310_150 : decode (sm_cc 310) 150 = .ok (.iload_n 2, 1) := by decide +kernel
theorem dc_310_151 : decode (sm_cc 310) 151 = .ok (.ifCond .ne (5), 3) := by decide +kernel
theorem dc_310_154 : decode (sm_cc 310) 154 = .ok (.iconst 1, 1) := by decide +kernel
theorem dc_310_155 : decode (sm_cc 310) 155 = .ok (.ireturn, 1) := by decide +kernel
theorem dc_310_156 : decode (sm_cc 310) 156 = .ok (.aload_n 0, 1) := by decide +kernel
theorem dc_310_157 : decode (sm_cc 310) 157 = .ok (.dup, 1) := by decide +kernel
theorem dc_310_158 : decode (sm_cc 310) 158 = .ok (.getfield 190, 3) := by decide +kernel
theorem dc_310_161 : decode (sm_cc 310) 161 = .ok (.iconst 1, 1) := by decide +kernel
theorem dc_310_162 : decode (sm_cc 310) 162 = .ok (.iadd, 1) := by decide +kernel
theorem dc_310_163 : decode (sm_cc 310) 163 = .ok (.putfield 190, 3) := by decide +kernel
theorem dc_310_166 : decode (sm_cc 310) 166 = .ok (.aload_n 0, 1) := by decide +kernel
theorem dc_310_167 : decode (sm_cc 310) 167 = .ok (.iload_n 1, 1) := by decide +kernel
theorem dc_310_168 : decode (sm_cc 310) 168 = .ok (.invokevirtual 406, 3) := by decide +kernel
theorem dc_310_171 : decode (sm_cc 310) 171 = .ok (.ifCond .ne (5), 3) := by decide +kernel
theorem dc_310_174 : decode (sm_cc 310) 174 = .ok (.iconst 0, 1) := by decide +kernel
theorem dc_310_175 : decode (sm_cc 310) 175 = .ok (.ireturn, 1) := by decide +kernel
theorem dc_310_176 : decode (sm_cc 310) 176 = .ok (.aload_n 0, 1) := by decide +kernel
theorem dc_310_177 : decode (sm_cc 310) 177 = .ok (.bipush (8), 2) := by decide +kernel
theorem dc_310_179 : decode (sm_cc 310) 179 = .ok (.iload_n 2, 1) := by decide +kernel
theorem dc_310_180 : decode (sm_cc 310) 180 = .ok (.invokevirtual 216, 3) := by decide +kernel
theorem kr_310_216 : sm_at mt_k (sm_ow 310) 216 = some (216, 0, 302, 0, 2465) := by decide +kernel
theorem dc_310_183 : decode (sm_cc 310) 183 = .ok (.aload_n 0, 1) := by decide +kernel
theorem dc_310_184 : decode (sm_cc 310) 184 = .ok (.iconst 0, 1) := by decide +kernel
theorem dc_310_185 : decode (sm_cc 310) 185 = .ok (.putfield 397, 3) := by decide +kernel
theorem fr_310_397 : sm_at mt_f (sm_ow 310) 397 = some (397, 14, 31, 0, 2104) := by decide +kernel
theorem dc_310_188 : decode (sm_cc 310) 188 = .ok (.iconst 1, 1) := by decide +kernel
theorem dc_310_189 : decode (sm_cc 310) 189 = .ok (.ireturn, 1) := by decide +kernel
theorem dc_324_0 : decode (sm_cc 324) 0 = .ok (.iload_n 1, 1) := by decide +kernel
theorem dc_324_1 : decode (sm_cc 324) 1 = .ok (.bipush (12), 2) := by decide +kernel
theorem dc_324_3 : decode (sm_cc 324) 3 = .ok (.if_icmp .ne (10), 3) := by decide +kernel
theorem dc_324_6 : decode (sm_cc 324) 6 = .ok (.aload_n 0, 1) := by decide +kernel
theorem dc_324_7 : decode (sm_cc 324) 7 = .ok (.invokevirtual 202, 3) := by decide +kernel
theorem kr_324_202 : sm_at mt_k (sm_ow 324) 202 = some (202, 0, 299, 0, 2454) := by decide +kernel
theorem dc_324_10 : decode (sm_cc 324) 10 = .ok (.pop, 1) := by decide +kernel
theorem dc_324_11 : decode (sm_cc 324) 11 = .ok (.iconst (-1), 1) := by decide +kernel
theorem dc_324_12 : decode (sm_cc 324) 12 = .ok (.ireturn, 1) := by decide +kernel
theorem rt_324 : sm_rt 324 = some .int := by decide +kernel
theorem ml_324 : sm_ml 324 = 6 := by decide +kernel
theorem dc_324_13 : decode (sm_cc 324) 13 = .ok (.aload_n 0, 1) := by decide +kernel
theorem dc_324_14 : decode (sm_cc 324) 14 = .ok (.dup, 1) := by decide +kernel
theorem dc_324_15 : decode (sm_cc 324) 15 = .ok (.getfield 190, 3) := by decide +kernel
theorem fr_324_190 : sm_at mt_f (sm_ow 324) 190 = some (190, 14, 15, 0, 2088) := by decide +kernel
theorem dc_324_18 : decode (sm_cc 324) 18 = .ok (.iconst 1, 1) := by decide +kernel
theorem dc_324_19 : decode (sm_cc 324) 19 = .ok (.iadd, 1) := by decide +kernel
theorem dc_324_20 : decode (sm_cc 324) 20 = .ok (.putfield 190, 3) := by decide +kernel
theorem dc_324_23 : decode (sm_cc 324) 23 = .ok (.iconst 0, 1) := by decide +kernel
theorem dc_324_24 : decode (sm_cc 324) 24 = .ok (.istore 5, 2) := by decide +kernel
theorem dc_324_26 : decode (sm_cc 324) 26 = .ok (.aload_n 0, 1) := by decide +kernel
theorem dc_324_27 : decode (sm_cc 324) 27 = .ok (.iload_n 2, 1) := by decide +kernel
theorem dc_324_28 : decode (sm_cc 324) 28 = .ok (.invokevirtual 199, 3) := by decide +kernel
theorem kr_324_199 : sm_at mt_k (sm_ow 324) 199 = some (199, 0, 314, 0, 2514) := by decide +kernel
theorem dc_324_31 : decode (sm_cc 324) 31 = .ok (.ifCond .eq (8), 3) := by decide +kernel
theorem dc_324_34 : decode (sm_cc 324) 34 = .ok (.iload 5, 2) := by decide +kernel
theorem dc_324_36 : decode (sm_cc 324) 36 = .ok (.ifCond .le (77), 3) := by decide +kernel
theorem dc_324_39 : decode (sm_cc 324) 39 = .ok (.iload 5, 2) := by decide +kernel
theorem dc_324_41 : decode (sm_cc 324) 41 = .ok (.iload_n 3, 1) := by decide +kernel
theorem dc_324_42 : decode (sm_cc 324) 42 = .ok (.if_icmp .ne (10), 3) := by decide +kernel
theorem dc_324_45 : decode (sm_cc 324) 45 = .ok (.aload_n 0, 1) := by decide +kernel
theorem dc_324_46 : decode (sm_cc 324) 46 = .ok (.invokevirtual 202, 3) := by decide +kernel
theorem dc_324_49 : decode (sm_cc 324) 49 = .ok (.pop, 1) := by decide +kernel
theorem dc_324_50 : decode (sm_cc 324) 50 = .ok (.iconst (-1), 1) := by decide +kernel
theorem dc_324_51 : decode (sm_cc 324) 51 = .ok (.ireturn, 1) := by decide +kernel
theorem dc_324_52 : decode (sm_cc 324) 52 = .ok (.aload_n 0, 1) := by decide +kernel
theorem dc_324_53 : decode (sm_cc 324) 53 = .ok (.iload_n 1, 1) := by decide +kernel
theorem dc_324_54 : decode (sm_cc 324) 54 = .ok (.iconst 1, 1) := by decide +kernel
theorem dc_324_55 : decode (sm_cc 324) 55 = .ok (.iadd, 1) := by decide +kernel
theorem dc_324_56 : decode (sm_cc 324) 56 = .ok (.invokevirtual 302, 3) := by decide +kernel
theorem kr_324_302 : sm_at mt_k (sm_ow 324) 302 = some (302, 0, 306, 0, 2482) := by decide +kernel
theorem dc_324_59 : decode (sm_cc 324) 59 = .ok (.ifCond .eq (27), 3) := by decide +kernel
theorem dc_324_86 : decode (sm_cc 324) 86 = .ok (.iconst (-1), 1) := by decide +kernel
theorem dc_324_87 : decode (sm_cc 324) 87 = .ok (.ireturn, 1) := by decide +kernel
theorem dc_324_62 : decode (sm_cc 324) 62 = .ok (.iload 4, 2) := by decide +kernel
theorem dc_324_64 : decode (sm_cc 324) 64 = .ok (.ifCond .eq (24), 3) := by decide +kernel
theorem dc_324_67 : decode (sm_cc 324) 67 = .ok (.aload_n 0, 1) := by decide +kernel
theorem dc_324_68 : decode (sm_cc 324) 68 = .ok (.bipush (58), 2) := by decide +kernel
theorem dc_324_70 : decode (sm_cc 324) 70 = .ok (.invokevirtual 270, 3) := by decide +kernel
theorem kr_324_270 : sm_at mt_k (sm_ow 324) 270 = some (270, 0, 323, 0, 2551) := by decide +kernel
theorem dc_324_73 : decode (sm_cc 324) 73 = .ok (.ifCond .eq (13), 3) := by decide +kernel
theorem dc_324_76 : decode (sm_cc 324) 76 = .ok (.aload_n 0, 1) := by decide +kernel
theorem dc_324_77 : decode (sm_cc 324) 77 = .ok (.iload_n 1, 1) := by decide +kernel
theorem dc_324_78 : decode (sm_cc 324) 78 = .ok (.iconst 1, 1) := by decide +kernel
theorem dc_324_79 : decode (sm_cc 324) 79 = .ok (.iadd, 1) := by decide +kernel
theorem dc_324_80 : decode (sm_cc 324) 80 = .ok (.invokevirtual 302, 3) := by decide +kernel
theorem dc_324_83 : decode (sm_cc 324) 83 = .ok (.ifCond .ne (5), 3) := by decide +kernel
theorem dc_324_88 : decode (sm_cc 324) 88 = .ok (.iinc 5 (1), 3) := by decide +kernel
theorem dc_324_91 : decode (sm_cc 324) 91 = .ok (.aload_n 0, 1) := by decide +kernel
theorem dc_324_92 : decode (sm_cc 324) 92 = .ok (.iload_n 2, 1) := by decide +kernel
theorem dc_324_93 : decode (sm_cc 324) 93 = .ok (.invokevirtual 199, 3) := by decide +kernel
theorem dc_324_96 : decode (sm_cc 324) 96 = .ok (.ifCond .eq (6), 3) := by decide +kernel
theorem dc_324_99 : decode (sm_cc 324) 99 = .ok (.goto (14), 3) := by decide +kernel
theorem dc_324_102 : decode (sm_cc 324) 102 = .ok (.aload_n 0, 1) := by decide +kernel
theorem dc_324_103 : decode (sm_cc 324) 103 = .ok (.bipush (44), 2) := by decide +kernel
theorem dc_324_105 : decode (sm_cc 324) 105 = .ok (.invokevirtual 270, 3) := by decide +kernel
theorem dc_324_108 : decode (sm_cc 324) 108 = .ok (.ifCond .ne (-82), 3) := by decide +kernel
theorem dc_324_111 : decode (sm_cc 324) 111 = .ok (.iconst (-1), 1) := by decide +kernel
theorem dc_324_112 : decode (sm_cc 324) 112 = .ok (.ireturn, 1) := by decide +kernel
theorem dc_324_113 : decode (sm_cc 324) 113 = .ok (.aload_n 0, 1) := by decide +kernel
theorem dc_324_114 : decode (sm_cc 324) 114 = .ok (.dup, 1) := by decide +kernel
theorem dc_324_115 : decode (sm_cc 324) 115 = .ok (.getfield 190, 3) := by decide +kernel
theorem dc_324_118 : decode (sm_cc 324) 118 = .ok (.iconst 1, 1) := by decide +kernel
theorem dc_324_119 : decode (sm_cc 324) 119 = .ok (.iadd, 1) := by decide +kernel
theorem dc_324_120 : decode (sm_cc 324) 120 = .ok (.putfield 190, 3) := by decide +kernel
theorem dc_324_123 : decode (sm_cc 324) 123 = .ok (.iload 5, 2) := by decide +kernel
theorem dc_324_125 : decode (sm_cc 324) 125 = .ok (.ireturn, 1) := by decide +kernel
theorem re_cmp_go {d : Nat} {S Sf : cS} {v : Option Value} {dp : Nat} {S1 : cS} (hdp : dp ≤ 12) (hC1 : Ans (d + 8) 311 [.ref 61, .int (nI dp)] S (some (.int (nI 1))) S1) (hB : ∀ lv1 : sm_L, sm_get lv1 0 = some (.ref 61) → sm_get lv1 1 = some (.int (nI dp)) → Bod (d + 8) 310 10 lv1 [] (S1) v Sf) : Ans (d + 9) 310 [.ref 61, .int (nI dp)] S v Sf := by
  refine Ans.of (by rw [ml_310]; exact Nat.le_of_ble_eq_true rfl) ?_
  refine Bod.go dc_310_0 rfl ?_
  refine Bod.go dc_310_1 rfl ?_
  refine Bod.virt (r := []) dc_310_2 kr_310_406 ⟨Or.inl rfl, ow_311, cl_14⟩ (by rw [np_311]; rfl) (by rw [np_311]; rfl) (ob_of (mk_61 _)) (Nat.le_of_ble_eq_true rfl) (hC1  ) ?_
  show Bod _ _ _ _ [_] _ _ _
  refine Bod.ifT dc_310_5 rfl (k1_ne_T (k_ne 1 0 rfl rfl (by omega) (by omega) (by omega))) ?_
  exact hB _ (by repeat (first | exact sm_get_p1 | exact sm_get_p2e | refine sm_get_p1m (by decide) (by decide) ?_ | refine sm_get_p1n (by decide) rfl ?_ | refine sm_get_p2n (by decide) (by decide) rfl ?_ | rfl)) (by repeat (first | exact sm_get_p1 | exact sm_get_p2e | refine sm_get_p1m (by decide) (by decide) ?_ | refine sm_get_p1n (by decide) rfl ?_ | refine sm_get_p2n (by decide) (by decide) rfl ?_ | rfl))
theorem re_cmp_no {d : Nat} {S : cS} {dp : Nat} {S1 : cS} (hdp : dp ≤ 12) (hC0 : Ans (d + 8) 311 [.ref 61, .int (nI dp)] S (some (.int (nI 0))) S1) : Ans (d + 9) 310 [.ref 61, .int (nI dp)] S (some (.int (0))) (S1) := by
  refine Ans.of (by rw [ml_310]; exact Nat.le_of_ble_eq_true rfl) ?_
  refine Bod.go dc_310_0 rfl ?_
  refine Bod.go dc_310_1 rfl ?_
  refine Bod.virt (r := []) dc_310_2 kr_310_406 ⟨Or.inl rfl, ow_311, cl_14⟩ (by rw [np_311]; rfl) (by rw [np_311]; rfl) (ob_of (mk_61 _)) (Nat.le_of_ble_eq_true rfl) (hC0  ) ?_
  show Bod _ _ _ _ [_] _ _ _
  refine Bod.ifF dc_310_5 rfl (k1_ne_F (k_eq 0 0 rfl rfl (by omega))) ?_
  refine Bod.ic 0 (by decide) dc_310_8 ?_
  exact Bod.retZ dc_310_9 rt_310 (Or.inl rfl)
theorem re_cmp_in {d : Nat} {S Sf : cS} {lv : sm_L} {v : Option Value} {dp : Nat}  (h0 : sm_get lv 0 = some (.ref 61)) (h1 : sm_get lv 1 = some (.int (nI dp))) (hdp : dp ≤ 12) (hY5 : Ans (d + 8) 309 [.ref 61, .int (nI 5)] S (some (.int (nI 1))) S) (hB : ∀ lv1 : sm_L, sm_get lv1 0 = some (.ref 61) → sm_get lv1 1 = some (.int (nI dp)) → sm_get lv1 2 = some (.int (nI 1)) → Bod (d + 8) 310 150 lv1 [] (S) v Sf) : Bod (d + 8) 310 10 lv [] S v Sf := by
  refine Bod.aldnG dc_310_10 (by repeat (first | exact h0 | exact sm_get_p1 | exact sm_get_p2e | refine sm_get_p1m (by decide) (by decide) ?_ | refine sm_get_p1n (by decide) rfl ?_ | refine sm_get_p2n (by decide) (by decide) rfl ?_)) ?_
  refine Bod.ic 5 (by decide) dc_310_11 ?_
  refine Bod.virt (r := []) dc_310_12 kr_310_312 ⟨Or.inl rfl, ow_309, cl_14⟩ (by rw [np_309]; rfl) (by rw [np_309]; rfl) (ob_of (mk_61 _)) (Nat.le_of_ble_eq_true rfl) (hY5  ) ?_
  show Bod _ _ _ _ [_] _ _ _
  refine Bod.ifF dc_310_15 rfl (k1_eq_F (k_ne 1 0 rfl rfl (by omega) (by omega) (by omega))) ?_
  refine Bod.ic 1 (by decide) dc_310_18 ?_
  refine Bod.go dc_310_19 rfl ?_
  refine Bod.istn dc_310_149 (by rw [ml_310]; exact Nat.le_of_ble_eq_true rfl) ?_
  exact hB _ (by repeat (first | exact h0 | exact sm_get_p1 | exact sm_get_p2e | refine sm_get_p1m (by decide) (by decide) ?_ | refine sm_get_p1n (by decide) rfl ?_ | refine sm_get_p2n (by decide) (by decide) rfl ?_)) (by repeat (first | exact h1 | exact sm_get_p1 | exact sm_get_p2e | refine sm_get_p1m (by decide) (by decide) ?_ | refine sm_get_p1n (by decide) rfl ?_ | refine sm_get_p2n (by decide) (by decide) rfl ?_)) (by repeat (first | exact sm_get_p1 | exact sm_get_p2e | refine sm_get_p1m (by decide) (by decide) ?_ | refine sm_get_p1n (by decide) rfl ?_ | refine sm_get_p2n (by decide) (by decide) rfl ?_ | rfl))
theorem re_cmp_is {d : Nat} {S Sf : cS} {lv : sm_L} {v : Option Value} {dp : Nat}  (h0 : sm_get lv 0 = some (.ref 61)) (h1 : sm_get lv 1 = some (.int (nI dp))) (hdp : dp ≤ 12) (hN5 : Ans (d + 8) 309 [.ref 61, .int (nI 5)] S (some (.int (nI 0))) S) (hY20 : Ans (d + 8) 309 [.ref 61, .int (nI 20)] S (some (.int (nI 1))) S) (hB : ∀ lv1 : sm_L, sm_get lv1 0 = some (.ref 61) → sm_get lv1 1 = some (.int (nI dp)) → sm_get lv1 2 = some (.int (nI 2)) → Bod (d + 8) 310 150 lv1 [] (S) v Sf) : Bod (d + 8) 310 10 lv [] S v Sf := by
  refine Bod.aldnG dc_310_10 (by repeat (first | exact h0 | exact sm_get_p1 | exact sm_get_p2e | refine sm_get_p1m (by decide) (by decide) ?_ | refine sm_get_p1n (by decide) rfl ?_ | refine sm_get_p2n (by decide) (by decide) rfl ?_)) ?_
  refine Bod.ic 5 (by decide) dc_310_11 ?_
  refine Bod.virt (r := []) dc_310_12 kr_310_312 ⟨Or.inl rfl, ow_309, cl_14⟩ (by rw [np_309]; rfl) (by rw [np_309]; rfl) (ob_of (mk_61 _)) (Nat.le_of_ble_eq_true rfl) (hN5  ) ?_
  show Bod _ _ _ _ [_] _ _ _
  refine Bod.ifT dc_310_15 rfl (k1_eq_T (k_eq 0 0 rfl rfl (by omega))) ?_
  refine Bod.aldnG dc_310_22 (by repeat (first | exact h0 | exact sm_get_p1 | exact sm_get_p2e | refine sm_get_p1m (by decide) (by decide) ?_ | refine sm_get_p1n (by decide) rfl ?_ | refine sm_get_p2n (by decide) (by decide) rfl ?_)) ?_
  refine Bod.bip 20 (by decide) dc_310_23 ?_
  refine Bod.virt (r := []) dc_310_25 kr_310_312 ⟨Or.inl rfl, ow_309, cl_14⟩ (by rw [np_309]; rfl) (by rw [np_309]; rfl) (ob_of (mk_61 _)) (Nat.le_of_ble_eq_true rfl) (hY20  ) ?_
  show Bod _ _ _ _ [_] _ _ _
  refine Bod.ifF dc_310_28 rfl (k1_eq_F (k_ne 1 0 rfl rfl (by omega) (by omega) (by omega))) ?_
  refine Bod.ic 2 (by decide) dc_310_31 ?_
  refine Bod.go dc_310_32 rfl ?_
  refine Bod.istn dc_310_149 (by rw [ml_310]; exact Nat.le_of_ble_eq_true rfl) ?_
  exact hB _ (by repeat (first | exact h0 | exact sm_get_p1 | exact sm_get_p2e | refine sm_get_p1m (by decide) (by decide) ?_ | refine sm_get_p1n (by decide) rfl ?_ | refine sm_get_p2n (by decide) (by decide) rfl ?_)) (by repeat (first | exact h1 | exact sm_get_p1 | exact sm_get_p2e | refine sm_get_p1m (by decide) (by decide) ?_ | refine sm_get_p1n (by decide) rfl ?_ | refine sm_get_p2n (by decide) (by decide) rfl ?_)) (by repeat (first | exact sm_get_p1 | exact sm_get_p2e | refine sm_get_p1m (by decide) (by decide) ?_ | refine sm_get_p1n (by decide) rfl ?_ | refine sm_get_p2n (by decide) (by decide) rfl ?_ | rfl))
theorem re_cmp_k {d : Nat} {S Sf : cS} {lv : sm_L} {v : Option Value} {dp : Nat} {j : Nat} {kd : Nat} (h0 : sm_get lv 0 = some (.ref 61)) (h1 : sm_get lv 1 = some (.int (nI dp))) (hdp : dp ≤ 12) (hN5 : Ans (d + 8) 309 [.ref 61, .int (nI 5)] S (some (.int (nI 0))) S) (hN20 : Ans (d + 8) 309 [.ref 61, .int (nI 20)] S (some (.int (nI 0))) S) (ha : sI S 6115 = nI j) (hj : j < 6002) (hkd : sA S 67 j = nI kd) (hkM : kd < 100) (hk5 : kd ≠ 5) (hB : ∀ lv1 : sm_L, sm_get lv1 0 = some (.ref 61) → sm_get lv1 1 = some (.int (nI dp)) → sm_get lv1 2 = some (.int (nI 0)) → Bod (d + 8) 310 150 lv1 [] (S) v Sf) : Bod (d + 8) 310 10 lv [] S v Sf := by
  refine Bod.aldnG dc_310_10 (by repeat (first | exact h0 | exact sm_get_p1 | exact sm_get_p2e | refine sm_get_p1m (by decide) (by decide) ?_ | refine sm_get_p1n (by decide) rfl ?_ | refine sm_get_p2n (by decide) (by decide) rfl ?_)) ?_
  refine Bod.ic 5 (by decide) dc_310_11 ?_
  refine Bod.virt (r := []) dc_310_12 kr_310_312 ⟨Or.inl rfl, ow_309, cl_14⟩ (by rw [np_309]; rfl) (by rw [np_309]; rfl) (ob_of (mk_61 _)) (Nat.le_of_ble_eq_true rfl) (hN5  ) ?_
  show Bod _ _ _ _ [_] _ _ _
  refine Bod.ifT dc_310_15 rfl (k1_eq_T (k_eq 0 0 rfl rfl (by omega))) ?_
  refine Bod.aldnG dc_310_22 (by repeat (first | exact h0 | exact sm_get_p1 | exact sm_get_p2e | refine sm_get_p1m (by decide) (by decide) ?_ | refine sm_get_p1n (by decide) rfl ?_ | refine sm_get_p2n (by decide) (by decide) rfl ?_)) ?_
  refine Bod.bip 20 (by decide) dc_310_23 ?_
  refine Bod.virt (r := []) dc_310_25 kr_310_312 ⟨Or.inl rfl, ow_309, cl_14⟩ (by rw [np_309]; rfl) (by rw [np_309]; rfl) (ob_of (mk_61 _)) (Nat.le_of_ble_eq_true rfl) (hN20  ) ?_
  show Bod _ _ _ _ [_] _ _ _
  refine Bod.ifT dc_310_28 rfl (k1_eq_T (k_eq 0 0 rfl rfl (by omega))) ?_
  refine Bod.aldnG dc_310_35 (by repeat (first | exact h0 | exact sm_get_p1 | exact sm_get_p2e | refine sm_get_p1m (by decide) (by decide) ?_ | refine sm_get_p1n (by decide) rfl ?_ | refine sm_get_p2n (by decide) (by decide) rfl ?_)) ?_
  refine Bod.get dc_310_36 fr_310_129 (mk_61 _) rfl ?_
  refine Bod.aldnG dc_310_39 (by repeat (first | exact h0 | exact sm_get_p1 | exact sm_get_p2e | refine sm_get_p1m (by decide) (by decide) ?_ | refine sm_get_p1n (by decide) rfl ?_ | refine sm_get_p2n (by decide) (by decide) rfl ?_)) ?_
  refine Bod.get dc_310_40 fr_310_190 (mk_61 _) rfl ?_
  refine Bod.eqI (nI j) (by first | assumption | rfl | exact congrArg nI (by omega) | (simp (disch := omega) only [rI, rIe, rA, rIA, rLA, rJA, rVI, rQI, rVA, rQA, upd_at,  rAI, rLI, rJI, nI_add, pk_sub, kc_0, kc_1, kc_2, kc_3, kc_4, kc_5, reduceIte, Nat.reduceEqDiff, Nat.add_zero, rI_hold, rI_hold, rL_hold, ha, hkd]; done)) ?_
  refine Bod.ialdN j rfl (by omega) (by omega) dc_310_43 (mk_67 _) ?_
  refine Bod.eqI (nI kd) (by first | assumption | rfl | exact congrArg nI (by omega) | (simp (disch := omega) only [rI, rIe, rA, rIA, rLA, rJA, rVI, rQI, rVA, rQA, upd_at,  rAI, rLI, rJI, nI_add, pk_sub, kc_0, kc_1, kc_2, kc_3, kc_4, kc_5, reduceIte, Nat.reduceEqDiff, Nat.add_zero, rI_hold, rI_hold, rL_hold, ha, hkd]; done)) ?_
  refine Bod.ic 5 (by decide) dc_310_44 ?_
  refine Bod.icT dc_310_45 rfl (k2_ne_T (k_ne kd 5 rfl rfl (by omega) (by omega) (by omega))) ?_
  refine Bod.ic 0 (by decide) dc_310_148 ?_
  refine Bod.istn dc_310_149 (by rw [ml_310]; exact Nat.le_of_ble_eq_true rfl) ?_
  exact hB _ (by repeat (first | exact h0 | exact sm_get_p1 | exact sm_get_p2e | refine sm_get_p1m (by decide) (by decide) ?_ | refine sm_get_p1n (by decide) rfl ?_ | refine sm_get_p2n (by decide) (by decide) rfl ?_)) (by repeat (first | exact h1 | exact sm_get_p1 | exact sm_get_p2e | refine sm_get_p1m (by decide) (by decide) ?_ | refine sm_get_p1n (by decide) rfl ?_ | refine sm_get_p2n (by decide) (by decide) rfl ?_)) (by repeat (first | exact sm_get_p1 | exact sm_get_p2e | refine sm_get_p1m (by decide) (by decide) ?_ | refine sm_get_p1n (by decide) rfl ?_ | refine sm_get_p2n (by decide) (by decide) rfl ?_ | rfl))
theorem re_cmp_s0 {d : Nat} {S Sf : cS} {lv : sm_L} {v : Option Value} {dp : Nat} {j : Nat} {kd : Nat} {vl : Nat} (h0 : sm_get lv 0 = some (.ref 61)) (h1 : sm_get lv 1 = some (.int (nI dp))) (hdp : dp ≤ 12) (hN5 : Ans (d + 8) 309 [.ref 61, .int (nI 5)] S (some (.int (nI 0))) S) (hN20 : Ans (d + 8) 309 [.ref 61, .int (nI 20)] S (some (.int (nI 0))) S) (ha : sI S 6115 = nI j) (hj : j < 6002) (hkd : sA S 67 j = nI kd) (hkM : kd < 100) (hk5 : kd = 5) (hvl : sA S 68 j = nI vl) (hvM : vl < 100000) (hvc : vl = 15677) (hB : ∀ lv1 : sm_L, sm_get lv1 0 = some (.ref 61) → sm_get lv1 1 = some (.int (nI dp)) → sm_get lv1 2 = some (.int (nI vl)) → Bod (d + 8) 310 150 lv1 [] (S) v Sf) : Bod (d + 8) 310 10 lv [] S v Sf := by
  refine Bod.aldnG dc_310_10 (by repeat (first | exact h0 | exact sm_get_p1 | exact sm_get_p2e | refine sm_get_p1m (by decide) (by decide) ?_ | refine sm_get_p1n (by decide) rfl ?_ | refine sm_get_p2n (by decide) (by decide) rfl ?_)) ?_
  refine Bod.ic 5 (by decide) dc_310_11 ?_
  refine Bod.virt (r := []) dc_310_12 kr_310_312 ⟨Or.inl rfl, ow_309, cl_14⟩ (by rw [np_309]; rfl) (by rw [np_309]; rfl) (ob_of (mk_61 _)) (Nat.le_of_ble_eq_true rfl) (hN5  ) ?_
  show Bod _ _ _ _ [_] _ _ _
  refine Bod.ifT dc_310_15 rfl (k1_eq_T (k_eq 0 0 rfl rfl (by omega))) ?_
  refine Bod.aldnG dc_310_22 (by repeat (first | exact h0 | exact sm_get_p1 | exact sm_get_p2e | refine sm_get_p1m (by decide) (by decide) ?_ | refine sm_get_p1n (by decide) rfl ?_ | refine sm_get_p2n (by decide) (by decide) rfl ?_)) ?_
  refine Bod.bip 20 (by decide) dc_310_23 ?_
  refine Bod.virt (r := []) dc_310_25 kr_310_312 ⟨Or.inl rfl, ow_309, cl_14⟩ (by rw [np_309]; rfl) (by rw [np_309]; rfl) (ob_of (mk_61 _)) (Nat.le_of_ble_eq_true rfl) (hN20  ) ?_
  show Bod _ _ _ _ [_] _ _ _
  refine Bod.ifT dc_310_28 rfl (k1_eq_T (k_eq 0 0 rfl rfl (by omega))) ?_
  refine Bod.aldnG dc_310_35 (by repeat (first | exact h0 | exact sm_get_p1 | exact sm_get_p2e | refine sm_get_p1m (by decide) (by decide) ?_ | refine sm_get_p1n (by decide) rfl ?_ | refine sm_get_p2n (by decide) (by decide) rfl ?_)) ?_
  refine Bod.get dc_310_36 fr_310_129 (mk_61 _) rfl ?_
  refine Bod.aldnG dc_310_39 (by repeat (first | exact h0 | exact sm_get_p1 | exact sm_get_p2e | refine sm_get_p1m (by decide) (by decide) ?_ | refine sm_get_p1n (by decide) rfl ?_ | refine sm_get_p2n (by decide) (by decide) rfl ?_)) ?_
  refine Bod.get dc_310_40 fr_310_190 (mk_61 _) rfl ?_
  refine Bod.eqI (nI j) (by first | assumption | rfl | exact congrArg nI (by omega) | (simp (disch := omega) only [rI, rIe, rA, rIA, rLA, rJA, rVI, rQI, rVA, rQA, upd_at,  rAI, rLI, rJI, nI_add, pk_sub, kc_0, kc_1, kc_2, kc_3, kc_4, kc_5, reduceIte, Nat.reduceEqDiff, Nat.add_zero, rI_hold, rI_hold, rL_hold, ha, hkd, hvl]; done)) ?_
  refine Bod.ialdN j rfl (by omega) (by omega) dc_310_43 (mk_67 _) ?_
  refine Bod.eqI (nI kd) (by first | assumption | rfl | exact congrArg nI (by omega) | (simp (disch := omega) only [rI, rIe, rA, rIA, rLA, rJA, rVI, rQI, rVA, rQA, upd_at,  rAI, rLI, rJI, nI_add, pk_sub, kc_0, kc_1, kc_2, kc_3, kc_4, kc_5, reduceIte, Nat.reduceEqDiff, Nat.add_zero, rI_hold, rI_hold, rL_hold, ha, hkd, hvl]; done)) ?_
  refine Bod.ic 5 (by decide) dc_310_44 ?_
  refine Bod.icF dc_310_45 rfl (k2_ne_F (k_eq kd 5 rfl rfl (by omega))) ?_
  refine Bod.aldnG dc_310_48 (by repeat (first | exact h0 | exact sm_get_p1 | exact sm_get_p2e | refine sm_get_p1m (by decide) (by decide) ?_ | refine sm_get_p1n (by decide) rfl ?_ | refine sm_get_p2n (by decide) (by decide) rfl ?_)) ?_
  refine Bod.get dc_310_49 fr_310_135 (mk_61 _) rfl ?_
  refine Bod.aldnG dc_310_52 (by repeat (first | exact h0 | exact sm_get_p1 | exact sm_get_p2e | refine sm_get_p1m (by decide) (by decide) ?_ | refine sm_get_p1n (by decide) rfl ?_ | refine sm_get_p2n (by decide) (by decide) rfl ?_)) ?_
  refine Bod.get dc_310_53 fr_310_190 (mk_61 _) rfl ?_
  refine Bod.eqI (nI j) (by first | assumption | rfl | exact congrArg nI (by omega) | (simp (disch := omega) only [rI, rIe, rA, rIA, rLA, rJA, rVI, rQI, rVA, rQA, upd_at,  rAI, rLI, rJI, nI_add, pk_sub, kc_0, kc_1, kc_2, kc_3, kc_4, kc_5, reduceIte, Nat.reduceEqDiff, Nat.add_zero, rI_hold, rI_hold, rL_hold, ha, hkd, hvl]; done)) ?_
  refine Bod.ialdN j rfl (by omega) (by omega) dc_310_56 (mk_68 _) ?_
  refine Bod.eqI (nI vl) (by first | assumption | rfl | exact congrArg nI (by omega) | (simp (disch := omega) only [rI, rIe, rA, rIA, rLA, rJA, rVI, rQI, rVA, rQA, upd_at,  rAI, rLI, rJI, nI_add, pk_sub, kc_0, kc_1, kc_2, kc_3, kc_4, kc_5, reduceIte, Nat.reduceEqDiff, Nat.add_zero, rI_hold, rI_hold, rL_hold, ha, hkd, hvl]; done)) ?_
  refine Bod.sip 15677 (by decide) dc_310_57 ?_
  refine Bod.icT dc_310_60 rfl (k2_eq_T (k_eq vl 15677 rfl rfl (by omega))) ?_
  refine Bod.aldnG dc_310_136 (by repeat (first | exact h0 | exact sm_get_p1 | exact sm_get_p2e | refine sm_get_p1m (by decide) (by decide) ?_ | refine sm_get_p1n (by decide) rfl ?_ | refine sm_get_p2n (by decide) (by decide) rfl ?_)) ?_
  refine Bod.get dc_310_137 fr_310_135 (mk_61 _) rfl ?_
  refine Bod.aldnG dc_310_140 (by repeat (first | exact h0 | exact sm_get_p1 | exact sm_get_p2e | refine sm_get_p1m (by decide) (by decide) ?_ | refine sm_get_p1n (by decide) rfl ?_ | refine sm_get_p2n (by decide) (by decide) rfl ?_)) ?_
  refine Bod.get dc_310_141 fr_310_190 (mk_61 _) rfl ?_
  refine Bod.eqI (nI j) (by first | assumption | rfl | exact congrArg nI (by omega) | (simp (disch := omega) only [rI, rIe, rA, rIA, rLA, rJA, rVI, rQI, rVA, rQA, upd_at,  rAI, rLI, rJI, nI_add, pk_sub, kc_0, kc_1, kc_2, kc_3, kc_4, kc_5, reduceIte, Nat.reduceEqDiff, Nat.add_zero, rI_hold, rI_hold, rL_hold, ha, hkd, hvl]; done)) ?_
  refine Bod.ialdN j rfl (by omega) (by omega) dc_310_144 (mk_68 _) ?_
  refine Bod.eqI (nI vl) (by first | assumption | rfl | exact congrArg nI (by omega) | (simp (disch := omega) only [rI, rIe, rA, rIA, rLA, rJA, rVI, rQI, rVA, rQA, upd_at,  rAI, rLI, rJI, nI_add, pk_sub, kc_0, kc_1, kc_2, kc_3, kc_4, kc_5, reduceIte, Nat.reduceEqDiff, Nat.add_zero, rI_hold, rI_hold, rL_hold, ha, hkd, hvl]; done)) ?_
  refine Bod.go dc_310_145 rfl ?_
  refine Bod.istn dc_310_149 (by rw [ml_310]; exact Nat.le_of_ble_eq_true rfl) ?_
  exact hB _ (by repeat (first | exact h0 | exact sm_get_p1 | exact sm_get_p2e | refine sm_get_p1m (by decide) (by decide) ?_ | refine sm_get_p1n (by decide) rfl ?_ | refine sm_get_p2n (by decide) (by decide) rfl ?_)) (by repeat (first | exact h1 | exact sm_get_p1 | exact sm_get_p2e | refine sm_get_p1m (by decide) (by decide) ?_ | refine sm_get_p1n (by decide) rfl ?_ | refine sm_get_p2n (by decide) (by decide) rfl ?_)) (by repeat (first | exact sm_get_p1 | exact sm_get_p2e | refine sm_get_p1m (by decide) (by decide) ?_ | refine sm_get_p1n (by decide) rfl ?_ | refine sm_get_p2n (by decide) (by decide) rfl ?_ | rfl))
theorem re_cmp_s1 {d : Nat} {S Sf : cS} {lv : sm_L} {v : Option Value} {dp : Nat} {j : Nat} {kd : Nat} {vl : Nat} (h0 : sm_get lv 0 = some (.ref 61)) (h1 : sm_get lv 1 = some (.int (nI dp))) (hdp : dp ≤ 12) (hN5 : Ans (d + 8) 309 [.ref 61, .int (nI 5)] S (some (.int (nI 0))) S) (hN20 : Ans (d + 8) 309 [.ref 61, .int (nI 20)] S (some (.int (nI 0))) S) (ha : sI S 6115 = nI j) (hj : j < 6002) (hkd : sA S 67 j = nI kd) (hkM : kd < 100) (hk5 : kd = 5) (hvl : sA S 68 j = nI vl) (hvM : vl < 100000) (hvc : vl = 8509) (hB : ∀ lv1 : sm_L, sm_get lv1 0 = some (.ref 61) → sm_get lv1 1 = some (.int (nI dp)) → sm_get lv1 2 = some (.int (nI vl)) → Bod (d + 8) 310 150 lv1 [] (S) v Sf) : Bod (d + 8) 310 10 lv [] S v Sf := by
  refine Bod.aldnG dc_310_10 (by repeat (first | exact h0 | exact sm_get_p1 | exact sm_get_p2e | refine sm_get_p1m (by decide) (by decide) ?_ | refine sm_get_p1n (by decide) rfl ?_ | refine sm_get_p2n (by decide) (by decide) rfl ?_)) ?_
  refine Bod.ic 5 (by decide) dc_310_11 ?_
  refine Bod.virt (r := []) dc_310_12 kr_310_312 ⟨Or.inl rfl, ow_309, cl_14⟩ (by rw [np_309]; rfl) (by rw [np_309]; rfl) (ob_of (mk_61 _)) (Nat.le_of_ble_eq_true rfl) (hN5  ) ?_
  show Bod _ _ _ _ [_] _ _ _
  refine Bod.ifT dc_310_15 rfl (k1_eq_T (k_eq 0 0 rfl rfl (by omega))) ?_
  refine Bod.aldnG dc_310_22 (by repeat (first | exact h0 | exact sm_get_p1 | exact sm_get_p2e | refine sm_get_p1m (by decide) (by decide) ?_ | refine sm_get_p1n (by decide) rfl ?_ | refine sm_get_p2n (by decide) (by decide) rfl ?_)) ?_
  refine Bod.bip 20 (by decide) dc_310_23 ?_
  refine Bod.virt (r := []) dc_310_25 kr_310_312 ⟨Or.inl rfl, ow_309, cl_14⟩ (by rw [np_309]; rfl) (by rw [np_309]; rfl) (ob_of (mk_61 _)) (Nat.le_of_ble_eq_true rfl) (hN20  ) ?_
  show Bod _ _ _ _ [_] _ _ _
  refine Bod.ifT dc_310_28 rfl (k1_eq_T (k_eq 0 0 rfl rfl (by omega))) ?_
  refine Bod.aldnG dc_310_35 (by repeat (first | exact h0 | exact sm_get_p1 | exact sm_get_p2e | refine sm_get_p1m (by decide) (by decide) ?_ | refine sm_get_p1n (by decide) rfl ?_ | refine sm_get_p2n (by decide) (by decide) rfl ?_)) ?_
  refine Bod.get dc_310_36 fr_310_129 (mk_61 _) rfl ?_
  refine Bod.aldnG dc_310_39 (by repeat (first | exact h0 | exact sm_get_p1 | exact sm_get_p2e | refine sm_get_p1m (by decide) (by decide) ?_ | refine sm_get_p1n (by decide) rfl ?_ | refine sm_get_p2n (by decide) (by decide) rfl ?_)) ?_
  refine Bod.get dc_310_40 fr_310_190 (mk_61 _) rfl ?_
  refine Bod.eqI (nI j) (by first | assumption | rfl | exact congrArg nI (by omega) | (simp (disch := omega) only [rI, rIe, rA, rIA, rLA, rJA, rVI, rQI, rVA, rQA, upd_at,  rAI, rLI, rJI, nI_add, pk_sub, kc_0, kc_1, kc_2, kc_3, kc_4, kc_5, reduceIte, Nat.reduceEqDiff, Nat.add_zero, rI_hold, rI_hold, rL_hold, ha, hkd, hvl]; done)) ?_
  refine Bod.ialdN j rfl (by omega) (by omega) dc_310_43 (mk_67 _) ?_
  refine Bod.eqI (nI kd) (by first | assumption | rfl | exact congrArg nI (by omega) | (simp (disch := omega) only [rI, rIe, rA, rIA, rLA, rJA, rVI, rQI, rVA, rQA, upd_at,  rAI, rLI, rJI, nI_add, pk_sub, kc_0, kc_1, kc_2, kc_3, kc_4, kc_5, reduceIte, Nat.reduceEqDiff, Nat.add_zero, rI_hold, rI_hold, rL_hold, ha, hkd, hvl]; done)) ?_
  refine Bod.ic 5 (by decide) dc_310_44 ?_
  refine Bod.icF dc_310_45 rfl (k2_ne_F (k_eq kd 5 rfl rfl (by omega))) ?_
  refine Bod.aldnG dc_310_48 (by repeat (first | exact h0 | exact sm_get_p1 | exact sm_get_p2e | refine sm_get_p1m (by decide) (by decide) ?_ | refine sm_get_p1n (by decide) rfl ?_ | refine sm_get_p2n (by decide) (by decide) rfl ?_)) ?_
  refine Bod.get dc_310_49 fr_310_135 (mk_61 _) rfl ?_
  refine Bod.aldnG dc_310_52 (by repeat (first | exact h0 | exact sm_get_p1 | exact sm_get_p2e | refine sm_get_p1m (by decide) (by decide) ?_ | refine sm_get_p1n (by decide) rfl ?_ | refine sm_get_p2n (by decide) (by decide) rfl ?_)) ?_
  refine Bod.get dc_310_53 fr_310_190 (mk_61 _) rfl ?_
  refine Bod.eqI (nI j) (by first | assumption | rfl | exact congrArg nI (by omega) | (simp (disch := omega) only [rI, rIe, rA, rIA, rLA, rJA, rVI, rQI, rVA, rQA, upd_at,  rAI, rLI, rJI, nI_add, pk_sub, kc_0, kc_1, kc_2, kc_3, kc_4, kc_5, reduceIte, Nat.reduceEqDiff, Nat.add_zero, rI_hold, rI_hold, rL_hold, ha, hkd, hvl]; done)) ?_
  refine Bod.ialdN j rfl (by omega) (by omega) dc_310_56 (mk_68 _) ?_
  refine Bod.eqI (nI vl) (by first | assumption | rfl | exact congrArg nI (by omega) | (simp (disch := omega) only [rI, rIe, rA, rIA, rLA, rJA, rVI, rQI, rVA, rQA, upd_at,  rAI, rLI, rJI, nI_add, pk_sub, kc_0, kc_1, kc_2, kc_3, kc_4, kc_5, reduceIte, Nat.reduceEqDiff, Nat.add_zero, rI_hold, rI_hold, rL_hold, ha, hkd, hvl]; done)) ?_
  refine Bod.sip 15677 (by decide) dc_310_57 ?_
  refine Bod.icF dc_310_60 rfl (k2_eq_F (k_ne vl 15677 rfl rfl (by omega) (by omega) (by omega))) ?_
  refine Bod.aldnG dc_310_63 (by repeat (first | exact h0 | exact sm_get_p1 | exact sm_get_p2e | refine sm_get_p1m (by decide) (by decide) ?_ | refine sm_get_p1n (by decide) rfl ?_ | refine sm_get_p2n (by decide) (by decide) rfl ?_)) ?_
  refine Bod.get dc_310_64 fr_310_135 (mk_61 _) rfl ?_
  refine Bod.aldnG dc_310_67 (by repeat (first | exact h0 | exact sm_get_p1 | exact sm_get_p2e | refine sm_get_p1m (by decide) (by decide) ?_ | refine sm_get_p1n (by decide) rfl ?_ | refine sm_get_p2n (by decide) (by decide) rfl ?_)) ?_
  refine Bod.get dc_310_68 fr_310_190 (mk_61 _) rfl ?_
  refine Bod.eqI (nI j) (by first | assumption | rfl | exact congrArg nI (by omega) | (simp (disch := omega) only [rI, rIe, rA, rIA, rLA, rJA, rVI, rQI, rVA, rQA, upd_at,  rAI, rLI, rJI, nI_add, pk_sub, kc_0, kc_1, kc_2, kc_3, kc_4, kc_5, reduceIte, Nat.reduceEqDiff, Nat.add_zero, rI_hold, rI_hold, rL_hold, ha, hkd, hvl]; done)) ?_
  refine Bod.ialdN j rfl (by omega) (by omega) dc_310_71 (mk_68 _) ?_
  refine Bod.eqI (nI vl) (by first | assumption | rfl | exact congrArg nI (by omega) | (simp (disch := omega) only [rI, rIe, rA, rIA, rLA, rJA, rVI, rQI, rVA, rQA, upd_at,  rAI, rLI, rJI, nI_add, pk_sub, kc_0, kc_1, kc_2, kc_3, kc_4, kc_5, reduceIte, Nat.reduceEqDiff, Nat.add_zero, rI_hold, rI_hold, rL_hold, ha, hkd, hvl]; done)) ?_
  refine Bod.sip 8509 (by decide) dc_310_72 ?_
  refine Bod.icT dc_310_75 rfl (k2_eq_T (k_eq vl 8509 rfl rfl (by omega))) ?_
  refine Bod.aldnG dc_310_136 (by repeat (first | exact h0 | exact sm_get_p1 | exact sm_get_p2e | refine sm_get_p1m (by decide) (by decide) ?_ | refine sm_get_p1n (by decide) rfl ?_ | refine sm_get_p2n (by decide) (by decide) rfl ?_)) ?_
  refine Bod.get dc_310_137 fr_310_135 (mk_61 _) rfl ?_
  refine Bod.aldnG dc_310_140 (by repeat (first | exact h0 | exact sm_get_p1 | exact sm_get_p2e | refine sm_get_p1m (by decide) (by decide) ?_ | refine sm_get_p1n (by decide) rfl ?_ | refine sm_get_p2n (by decide) (by decide) rfl ?_)) ?_
  refine Bod.get dc_310_141 fr_310_190 (mk_61 _) rfl ?_
  refine Bod.eqI (nI j) (by first | assumption | rfl | exact congrArg nI (by omega) | (simp (disch := omega) only [rI, rIe, rA, rIA, rLA, rJA, rVI, rQI, rVA, rQA, upd_at,  rAI, rLI, rJI, nI_add, pk_sub, kc_0, kc_1, kc_2, kc_3, kc_4, kc_5, reduceIte, Nat.reduceEqDiff, Nat.add_zero, rI_hold, rI_hold, rL_hold, ha, hkd, hvl]; done)) ?_
  refine Bod.ialdN j rfl (by omega) (by omega) dc_310_144 (mk_68 _) ?_
  refine Bod.eqI (nI vl) (by first | assumption | rfl | exact congrArg nI (by omega) | (simp (disch := omega) only [rI, rIe, rA, rIA, rLA, rJA, rVI, rQI, rVA, rQA, upd_at,  rAI, rLI, rJI, nI_add, pk_sub, kc_0, kc_1, kc_2, kc_3, kc_4, kc_5, reduceIte, Nat.reduceEqDiff, Nat.add_zero, rI_hold, rI_hold, rL_hold, ha, hkd, hvl]; done)) ?_
  refine Bod.go dc_310_145 rfl ?_
  refine Bod.istn dc_310_149 (by rw [ml_310]; exact Nat.le_of_ble_eq_true rfl) ?_
  exact hB _ (by repeat (first | exact h0 | exact sm_get_p1 | exact sm_get_p2e | refine sm_get_p1m (by decide) (by decide) ?_ | refine sm_get_p1n (by decide) rfl ?_ | refine sm_get_p2n (by decide) (by decide) rfl ?_)) (by repeat (first | exact h1 | exact sm_get_p1 | exact sm_get_p2e | refine sm_get_p1m (by decide) (by decide) ?_ | refine sm_get_p1n (by decide) rfl ?_ | refine sm_get_p2n (by decide) (by decide) rfl ?_)) (by repeat (first | exact sm_get_p1 | exact sm_get_p2e | refine sm_get_p1m (by decide) (by decide) ?_ | refine sm_get_p1n (by decide) rfl ?_ | refine sm_get_p2n (by decide) (by decide) rfl ?_ | rfl))
theorem re_cmp_s2 {d : Nat} {S Sf : cS} {lv : sm_L} {v : Option Value} {dp : Nat} {j : Nat} {kd : Nat} {vl : Nat} (h0 : sm_get lv 0 = some (.ref 61)) (h1 : sm_get lv 1 = some (.int (nI dp))) (hdp : dp ≤ 12) (hN5 : Ans (d + 8) 309 [.ref 61, .int (nI 5)] S (some (.int (nI 0))) S) (hN20 : Ans (d + 8) 309 [.ref 61, .int (nI 20)] S (some (.int (nI 0))) S) (ha : sI S 6115 = nI j) (hj : j < 6002) (hkd : sA S 67 j = nI kd) (hkM : kd < 100) (hk5 : kd = 5) (hvl : sA S 68 j = nI vl) (hvM : vl < 100000) (hvc : vl = 15421) (hB : ∀ lv1 : sm_L, sm_get lv1 0 = some (.ref 61) → sm_get lv1 1 = some (.int (nI dp)) → sm_get lv1 2 = some (.int (nI vl)) → Bod (d + 8) 310 150 lv1 [] (S) v Sf) : Bod (d + 8) 310 10 lv [] S v Sf := by
  refine Bod.aldnG dc_310_10 (by repeat (first | exact h0 | exact sm_get_p1 | exact sm_get_p2e | refine sm_get_p1m (by decide) (by decide) ?_ | refine sm_get_p1n (by decide) rfl ?_ | refine sm_get_p2n (by decide) (by decide) rfl ?_)) ?_
  refine Bod.ic 5 (by decide) dc_310_11 ?_
  refine Bod.virt (r := []) dc_310_12 kr_310_312 ⟨Or.inl rfl, ow_309, cl_14⟩ (by rw [np_309]; rfl) (by rw [np_309]; rfl) (ob_of (mk_61 _)) (Nat.le_of_ble_eq_true rfl) (hN5  ) ?_
  show Bod _ _ _ _ [_] _ _ _
  refine Bod.ifT dc_310_15 rfl (k1_eq_T (k_eq 0 0 rfl rfl (by omega))) ?_
  refine Bod.aldnG dc_310_22 (by repeat (first | exact h0 | exact sm_get_p1 | exact sm_get_p2e | refine sm_get_p1m (by decide) (by decide) ?_ | refine sm_get_p1n (by decide) rfl ?_ | refine sm_get_p2n (by decide) (by decide) rfl ?_)) ?_
  refine Bod.bip 20 (by decide) dc_310_23 ?_
  refine Bod.virt (r := []) dc_310_25 kr_310_312 ⟨Or.inl rfl, ow_309, cl_14⟩ (by rw [np_309]; rfl) (by rw [np_309]; rfl) (ob_of (mk_61 _)) (Nat.le_of_ble_eq_true rfl) (hN20  ) ?_
  show Bod _ _ _ _ [_] _ _ _
  refine Bod.ifT dc_310_28 rfl (k1_eq_T (k_eq 0 0 rfl rfl (by omega))) ?_
  refine Bod.aldnG dc_310_35 (by repeat (first | exact h0 | exact sm_get_p1 | exact sm_get_p2e | refine sm_get_p1m (by decide) (by decide) ?_ | refine sm_get_p1n (by decide) rfl ?_ | refine sm_get_p2n (by decide) (by decide) rfl ?_)) ?_
  refine Bod.get dc_310_36 fr_310_129 (mk_61 _) rfl ?_
  refine Bod.aldnG dc_310_39 (by repeat (first | exact h0 | exact sm_get_p1 | exact sm_get_p2e | refine sm_get_p1m (by decide) (by decide) ?_ | refine sm_get_p1n (by decide) rfl ?_ | refine sm_get_p2n (by decide) (by decide) rfl ?_)) ?_
  refine Bod.get dc_310_40 fr_310_190 (mk_61 _) rfl ?_
  refine Bod.eqI (nI j) (by first | assumption | rfl | exact congrArg nI (by omega) | (simp (disch := omega) only [rI, rIe, rA, rIA, rLA, rJA, rVI, rQI, rVA, rQA, upd_at,  rAI, rLI, rJI, nI_add, pk_sub, kc_0, kc_1, kc_2, kc_3, kc_4, kc_5, reduceIte, Nat.reduceEqDiff, Nat.add_zero, rI_hold, rI_hold, rL_hold, ha, hkd, hvl]; done)) ?_
  refine Bod.ialdN j rfl (by omega) (by omega) dc_310_43 (mk_67 _) ?_
  refine Bod.eqI (nI kd) (by first | assumption | rfl | exact congrArg nI (by omega) | (simp (disch := omega) only [rI, rIe, rA, rIA, rLA, rJA, rVI, rQI, rVA, rQA, upd_at,  rAI, rLI, rJI, nI_add, pk_sub, kc_0, kc_1, kc_2, kc_3, kc_4, kc_5, reduceIte, Nat.reduceEqDiff, Nat.add_zero, rI_hold, rI_hold, rL_hold, ha, hkd, hvl]; done)) ?_
  refine Bod.ic 5 (by decide) dc_310_44 ?_
  refine Bod.icF dc_310_45 rfl (k2_ne_F (k_eq kd 5 rfl rfl (by omega))) ?_
  refine Bod.aldnG dc_310_48 (by repeat (first | exact h0 | exact sm_get_p1 | exact sm_get_p2e | refine sm_get_p1m (by decide) (by decide) ?_ | refine sm_get_p1n (by decide) rfl ?_ | refine sm_get_p2n (by decide) (by decide) rfl ?_)) ?_
  refine Bod.get dc_310_49 fr_310_135 (mk_61 _) rfl ?_
  refine Bod.aldnG dc_310_52 (by repeat (first | exact h0 | exact sm_get_p1 | exact sm_get_p2e | refine sm_get_p1m (by decide) (by decide) ?_ | refine sm_get_p1n (by decide) rfl ?_ | refine sm_get_p2n (by decide) (by decide) rfl ?_)) ?_
  refine Bod.get dc_310_53 fr_310_190 (mk_61 _) rfl ?_
  refine Bod.eqI (nI j) (by first | assumption | rfl | exact congrArg nI (by omega) | (simp (disch := omega) only [rI, rIe, rA, rIA, rLA, rJA, rVI, rQI, rVA, rQA, upd_at,  rAI, rLI, rJI, nI_add, pk_sub, kc_0, kc_1, kc_2, kc_3, kc_4, kc_5, reduceIte, Nat.reduceEqDiff, Nat.add_zero, rI_hold, rI_hold, rL_hold, ha, hkd, hvl]; done)) ?_
  refine Bod.ialdN j rfl (by omega) (by omega) dc_310_56 (mk_68 _) ?_
  refine Bod.eqI (nI vl) (by first | assumption | rfl | exact congrArg nI (by omega) | (simp (disch := omega) only [rI, rIe, rA, rIA, rLA, rJA, rVI, rQI, rVA, rQA, upd_at,  rAI, rLI, rJI, nI_add, pk_sub, kc_0, kc_1, kc_2, kc_3, kc_4, kc_5, reduceIte, Nat.reduceEqDiff, Nat.add_zero, rI_hold, rI_hold, rL_hold, ha, hkd, hvl]; done)) ?_
  refine Bod.sip 15677 (by decide) dc_310_57 ?_
  refine Bod.icF dc_310_60 rfl (k2_eq_F (k_ne vl 15677 rfl rfl (by omega) (by omega) (by omega))) ?_
  refine Bod.aldnG dc_310_63 (by repeat (first | exact h0 | exact sm_get_p1 | exact sm_get_p2e | refine sm_get_p1m (by decide) (by decide) ?_ | refine sm_get_p1n (by decide) rfl ?_ | refine sm_get_p2n (by decide) (by decide) rfl ?_)) ?_
  refine Bod.get dc_310_64 fr_310_135 (mk_61 _) rfl ?_
  refine Bod.aldnG dc_310_67 (by repeat (first | exact h0 | exact sm_get_p1 | exact sm_get_p2e | refine sm_get_p1m (by decide) (by decide) ?_ | refine sm_get_p1n (by decide) rfl ?_ | refine sm_get_p2n (by decide) (by decide) rfl ?_)) ?_
  refine Bod.get dc_310_68 fr_310_190 (mk_61 _) rfl ?_
  refine Bod.eqI (nI j) (by first | assumption | rfl | exact congrArg nI (by omega) | (simp (disch := omega) only [rI, rIe, rA, rIA, rLA, rJA, rVI, rQI, rVA, rQA, upd_at,  rAI, rLI, rJI, nI_add, pk_sub, kc_0, kc_1, kc_2, kc_3, kc_4, kc_5, reduceIte, Nat.reduceEqDiff, Nat.add_zero, rI_hold, rI_hold, rL_hold, ha, hkd, hvl]; done)) ?_
  refine Bod.ialdN j rfl (by omega) (by omega) dc_310_71 (mk_68 _) ?_
  refine Bod.eqI (nI vl) (by first | assumption | rfl | exact congrArg nI (by omega) | (simp (disch := omega) only [rI, rIe, rA, rIA, rLA, rJA, rVI, rQI, rVA, rQA, upd_at,  rAI, rLI, rJI, nI_add, pk_sub, kc_0, kc_1, kc_2, kc_3, kc_4, kc_5, reduceIte, Nat.reduceEqDiff, Nat.add_zero, rI_hold, rI_hold, rL_hold, ha, hkd, hvl]; done)) ?_
  refine Bod.sip 8509 (by decide) dc_310_72 ?_
  refine Bod.icF dc_310_75 rfl (k2_eq_F (k_ne vl 8509 rfl rfl (by omega) (by omega) (by omega))) ?_
  refine Bod.aldnG dc_310_78 (by repeat (first | exact h0 | exact sm_get_p1 | exact sm_get_p2e | refine sm_get_p1m (by decide) (by decide) ?_ | refine sm_get_p1n (by decide) rfl ?_ | refine sm_get_p2n (by decide) (by decide) rfl ?_)) ?_
  refine Bod.get dc_310_79 fr_310_135 (mk_61 _) rfl ?_
  refine Bod.aldnG dc_310_82 (by repeat (first | exact h0 | exact sm_get_p1 | exact sm_get_p2e | refine sm_get_p1m (by decide) (by decide) ?_ | refine sm_get_p1n (by decide) rfl ?_ | refine sm_get_p2n (by decide) (by decide) rfl ?_)) ?_
  refine Bod.get dc_310_83 fr_310_190 (mk_61 _) rfl ?_
  refine Bod.eqI (nI j) (by first | assumption | rfl | exact congrArg nI (by omega) | (simp (disch := omega) only [rI, rIe, rA, rIA, rLA, rJA, rVI, rQI, rVA, rQA, upd_at,  rAI, rLI, rJI, nI_add, pk_sub, kc_0, kc_1, kc_2, kc_3, kc_4, kc_5, reduceIte, Nat.reduceEqDiff, Nat.add_zero, rI_hold, rI_hold, rL_hold, ha, hkd, hvl]; done)) ?_
  refine Bod.ialdN j rfl (by omega) (by omega) dc_310_86 (mk_68 _) ?_
  refine Bod.eqI (nI vl) (by first | assumption | rfl | exact congrArg nI (by omega) | (simp (disch := omega) only [rI, rIe, rA, rIA, rLA, rJA, rVI, rQI, rVA, rQA, upd_at,  rAI, rLI, rJI, nI_add, pk_sub, kc_0, kc_1, kc_2, kc_3, kc_4, kc_5, reduceIte, Nat.reduceEqDiff, Nat.add_zero, rI_hold, rI_hold, rL_hold, ha, hkd, hvl]; done)) ?_
  refine Bod.sip 15421 (by decide) dc_310_87 ?_
  refine Bod.icT dc_310_90 rfl (k2_eq_T (k_eq vl 15421 rfl rfl (by omega))) ?_
  refine Bod.aldnG dc_310_136 (by repeat (first | exact h0 | exact sm_get_p1 | exact sm_get_p2e | refine sm_get_p1m (by decide) (by decide) ?_ | refine sm_get_p1n (by decide) rfl ?_ | refine sm_get_p2n (by decide) (by decide) rfl ?_)) ?_
  refine Bod.get dc_310_137 fr_310_135 (mk_61 _) rfl ?_
  refine Bod.aldnG dc_310_140 (by repeat (first | exact h0 | exact sm_get_p1 | exact sm_get_p2e | refine sm_get_p1m (by decide) (by decide) ?_ | refine sm_get_p1n (by decide) rfl ?_ | refine sm_get_p2n (by decide) (by decide) rfl ?_)) ?_
  refine Bod.get dc_310_141 fr_310_190 (mk_61 _) rfl ?_
  refine Bod.eqI (nI j) (by first | assumption | rfl | exact congrArg nI (by omega) | (simp (disch := omega) only [rI, rIe, rA, rIA, rLA, rJA, rVI, rQI, rVA, rQA, upd_at,  rAI, rLI, rJI, nI_add, pk_sub, kc_0, kc_1, kc_2, kc_3, kc_4, kc_5, reduceIte, Nat.reduceEqDiff, Nat.add_zero, rI_hold, rI_hold, rL_hold, ha, hkd, hvl]; done)) ?_
  refine Bod.ialdN j rfl (by omega) (by omega) dc_310_144 (mk_68 _) ?_
  refine Bod.eqI (nI vl) (by first | assumption | rfl | exact congrArg nI (by omega) | (simp (disch := omega) only [rI, rIe, rA, rIA, rLA, rJA, rVI, rQI, rVA, rQA, upd_at,  rAI, rLI, rJI, nI_add, pk_sub, kc_0, kc_1, kc_2, kc_3, kc_4, kc_5, reduceIte, Nat.reduceEqDiff, Nat.add_zero, rI_hold, rI_hold, rL_hold, ha, hkd, hvl]; done)) ?_
  refine Bod.go dc_310_145 rfl ?_
  refine Bod.istn dc_310_149 (by rw [ml_310]; exact Nat.le_of_ble_eq_true rfl) ?_
  exact hB _ (by repeat (first | exact h0 | exact sm_get_p1 | exact sm_get_p2e | refine sm_get_p1m (by decide) (by decide) ?_ | refine sm_get_p1n (by decide) rfl ?_ | refine sm_get_p2n (by decide) (by decide) rfl ?_)) (by repeat (first | exact h1 | exact sm_get_p1 | exact sm_get_p2e | refine sm_get_p1m (by decide) (by decide) ?_ | refine sm_get_p1n (by decide) rfl ?_ | refine sm_get_p2n (by decide) (by decide) rfl ?_)) (by repeat (first | exact sm_get_p1 | exact sm_get_p2e | refine sm_get_p1m (by decide) (by decide) ?_ | refine sm_get_p1n (by decide) rfl ?_ | refine sm_get_p2n (by decide) (by decide) rfl ?_ | rfl))
theorem re_cmp_s3 {d : Nat} {S Sf : cS} {lv : sm_L} {v : Option Value} {dp : Nat} {j : Nat} {kd : Nat} {vl : Nat} (h0 : sm_get lv 0 = some (.ref 61)) (h1 : sm_get lv 1 = some (.int (nI dp))) (hdp : dp ≤ 12) (hN5 : Ans (d + 8) 309 [.ref 61, .int (nI 5)] S (some (.int (nI 0))) S) (hN20 : Ans (d + 8) 309 [.ref 61, .int (nI 20)] S (some (.int (nI 0))) S) (ha : sI S 6115 = nI j) (hj : j < 6002) (hkd : sA S 67 j = nI kd) (hkM : kd < 100) (hk5 : kd = 5) (hvl : sA S 68 j = nI vl) (hvM : vl < 100000) (hvc : vl = 15933) (hB : ∀ lv1 : sm_L, sm_get lv1 0 = some (.ref 61) → sm_get lv1 1 = some (.int (nI dp)) → sm_get lv1 2 = some (.int (nI vl)) → Bod (d + 8) 310 150 lv1 [] (S) v Sf) : Bod (d + 8) 310 10 lv [] S v Sf := by
  refine Bod.aldnG dc_310_10 (by repeat (first | exact h0 | exact sm_get_p1 | exact sm_get_p2e | refine sm_get_p1m (by decide) (by decide) ?_ | refine sm_get_p1n (by decide) rfl ?_ | refine sm_get_p2n (by decide) (by decide) rfl ?_)) ?_
  refine Bod.ic 5 (by decide) dc_310_11 ?_
  refine Bod.virt (r := []) dc_310_12 kr_310_312 ⟨Or.inl rfl, ow_309, cl_14⟩ (by rw [np_309]; rfl) (by rw [np_309]; rfl) (ob_of (mk_61 _)) (Nat.le_of_ble_eq_true rfl) (hN5  ) ?_
  show Bod _ _ _ _ [_] _ _ _
  refine Bod.ifT dc_310_15 rfl (k1_eq_T (k_eq 0 0 rfl rfl (by omega))) ?_
  refine Bod.aldnG dc_310_22 (by repeat (first | exact h0 | exact sm_get_p1 | exact sm_get_p2e | refine sm_get_p1m (by decide) (by decide) ?_ | refine sm_get_p1n (by decide) rfl ?_ | refine sm_get_p2n (by decide) (by decide) rfl ?_)) ?_
  refine Bod.bip 20 (by decide) dc_310_23 ?_
  refine Bod.virt (r := []) dc_310_25 kr_310_312 ⟨Or.inl rfl, ow_309, cl_14⟩ (by rw [np_309]; rfl) (by rw [np_309]; rfl) (ob_of (mk_61 _)) (Nat.le_of_ble_eq_true rfl) (hN20  ) ?_
  show Bod _ _ _ _ [_] _ _ _
  refine Bod.ifT dc_310_28 rfl (k1_eq_T (k_eq 0 0 rfl rfl (by omega))) ?_
  refine Bod.aldnG dc_310_35 (by repeat (first | exact h0 | exact sm_get_p1 | exact sm_get_p2e | refine sm_get_p1m (by decide) (by decide) ?_ | refine sm_get_p1n (by decide) rfl ?_ | refine sm_get_p2n (by decide) (by decide) rfl ?_)) ?_
  refine Bod.get dc_310_36 fr_310_129 (mk_61 _) rfl ?_
  refine Bod.aldnG dc_310_39 (by repeat (first | exact h0 | exact sm_get_p1 | exact sm_get_p2e | refine sm_get_p1m (by decide) (by decide) ?_ | refine sm_get_p1n (by decide) rfl ?_ | refine sm_get_p2n (by decide) (by decide) rfl ?_)) ?_
  refine Bod.get dc_310_40 fr_310_190 (mk_61 _) rfl ?_
  refine Bod.eqI (nI j) (by first | assumption | rfl | exact congrArg nI (by omega) | (simp (disch := omega) only [rI, rIe, rA, rIA, rLA, rJA, rVI, rQI, rVA, rQA, upd_at,  rAI, rLI, rJI, nI_add, pk_sub, kc_0, kc_1, kc_2, kc_3, kc_4, kc_5, reduceIte, Nat.reduceEqDiff, Nat.add_zero, rI_hold, rI_hold, rL_hold, ha, hkd, hvl]; done)) ?_
  refine Bod.ialdN j rfl (by omega) (by omega) dc_310_43 (mk_67 _) ?_
  refine Bod.eqI (nI kd) (by first | assumption | rfl | exact congrArg nI (by omega) | (simp (disch := omega) only [rI, rIe, rA, rIA, rLA, rJA, rVI, rQI, rVA, rQA, upd_at,  rAI, rLI, rJI, nI_add, pk_sub, kc_0, kc_1, kc_2, kc_3, kc_4, kc_5, reduceIte, Nat.reduceEqDiff, Nat.add_zero, rI_hold, rI_hold, rL_hold, ha, hkd, hvl]; done)) ?_
  refine Bod.ic 5 (by decide) dc_310_44 ?_
  refine Bod.icF dc_310_45 rfl (k2_ne_F (k_eq kd 5 rfl rfl (by omega))) ?_
  refine Bod.aldnG dc_310_48 (by repeat (first | exact h0 | exact sm_get_p1 | exact sm_get_p2e | refine sm_get_p1m (by decide) (by decide) ?_ | refine sm_get_p1n (by decide) rfl ?_ | refine sm_get_p2n (by decide) (by decide) rfl ?_)) ?_
  refine Bod.get dc_310_49 fr_310_135 (mk_61 _) rfl ?_
  refine Bod.aldnG dc_310_52 (by repeat (first | exact h0 | exact sm_get_p1 | exact sm_get_p2e | refine sm_get_p1m (by decide) (by decide) ?_ | refine sm_get_p1n (by decide) rfl ?_ | refine sm_get_p2n (by decide) (by decide) rfl ?_)) ?_
  refine Bod.get dc_310_53 fr_310_190 (mk_61 _) rfl ?_
  refine Bod.eqI (nI j) (by first | assumption | rfl | exact congrArg nI (by omega) | (simp (disch := omega) only [rI, rIe, rA, rIA, rLA, rJA, rVI, rQI, rVA, rQA, upd_at,  rAI, rLI, rJI, nI_add, pk_sub, kc_0, kc_1, kc_2, kc_3, kc_4, kc_5, reduceIte, Nat.reduceEqDiff, Nat.add_zero, rI_hold, rI_hold, rL_hold, ha, hkd, hvl]; done)) ?_
  refine Bod.ialdN j rfl (by omega) (by omega) dc_310_56 (mk_68 _) ?_
  refine Bod.eqI (nI vl) (by first | assumption | rfl | exact congrArg nI (by omega) | (simp (disch := omega) only [rI, rIe, rA, rIA, rLA, rJA, rVI, rQI, rVA, rQA, upd_at,  rAI, rLI, rJI, nI_add, pk_sub, kc_0, kc_1, kc_2, kc_3, kc_4, kc_5, reduceIte, Nat.reduceEqDiff, Nat.add_zero, rI_hold, rI_hold, rL_hold, ha, hkd, hvl]; done)) ?_
  refine Bod.sip 15677 (by decide) dc_310_57 ?_
  refine Bod.icF dc_310_60 rfl (k2_eq_F (k_ne vl 15677 rfl rfl (by omega) (by omega) (by omega))) ?_
  refine Bod.aldnG dc_310_63 (by repeat (first | exact h0 | exact sm_get_p1 | exact sm_get_p2e | refine sm_get_p1m (by decide) (by decide) ?_ | refine sm_get_p1n (by decide) rfl ?_ | refine sm_get_p2n (by decide) (by decide) rfl ?_)) ?_
  refine Bod.get dc_310_64 fr_310_135 (mk_61 _) rfl ?_
  refine Bod.aldnG dc_310_67 (by repeat (first | exact h0 | exact sm_get_p1 | exact sm_get_p2e | refine sm_get_p1m (by decide) (by decide) ?_ | refine sm_get_p1n (by decide) rfl ?_ | refine sm_get_p2n (by decide) (by decide) rfl ?_)) ?_
  refine Bod.get dc_310_68 fr_310_190 (mk_61 _) rfl ?_
  refine Bod.eqI (nI j) (by first | assumption | rfl | exact congrArg nI (by omega) | (simp (disch := omega) only [rI, rIe, rA, rIA, rLA, rJA, rVI, rQI, rVA, rQA, upd_at,  rAI, rLI, rJI, nI_add, pk_sub, kc_0, kc_1, kc_2, kc_3, kc_4, kc_5, reduceIte, Nat.reduceEqDiff, Nat.add_zero, rI_hold, rI_hold, rL_hold, ha, hkd, hvl]; done)) ?_
  refine Bod.ialdN j rfl (by omega) (by omega) dc_310_71 (mk_68 _) ?_
  refine Bod.eqI (nI vl) (by first | assumption | rfl | exact congrArg nI (by omega) | (simp (disch := omega) only [rI, rIe, rA, rIA, rLA, rJA, rVI, rQI, rVA, rQA, upd_at,  rAI, rLI, rJI, nI_add, pk_sub, kc_0, kc_1, kc_2, kc_3, kc_4, kc_5, reduceIte, Nat.reduceEqDiff, Nat.add_zero, rI_hold, rI_hold, rL_hold, ha, hkd, hvl]; done)) ?_
  refine Bod.sip 8509 (by decide) dc_310_72 ?_
  refine Bod.icF dc_310_75 rfl (k2_eq_F (k_ne vl 8509 rfl rfl (by omega) (by omega) (by omega))) ?_
  refine Bod.aldnG dc_310_78 (by repeat (first | exact h0 | exact sm_get_p1 | exact sm_get_p2e | refine sm_get_p1m (by decide) (by decide) ?_ | refine sm_get_p1n (by decide) rfl ?_ | refine sm_get_p2n (by decide) (by decide) rfl ?_)) ?_
  refine Bod.get dc_310_79 fr_310_135 (mk_61 _) rfl ?_
  refine Bod.aldnG dc_310_82 (by repeat (first | exact h0 | exact sm_get_p1 | exact sm_get_p2e | refine sm_get_p1m (by decide) (by decide) ?_ | refine sm_get_p1n (by decide) rfl ?_ | refine sm_get_p2n (by decide) (by decide) rfl ?_)) ?_
  refine Bod.get dc_310_83 fr_310_190 (mk_61 _) rfl ?_
  refine Bod.eqI (nI j) (by first | assumption | rfl | exact congrArg nI (by omega) | (simp (disch := omega) only [rI, rIe, rA, rIA, rLA, rJA, rVI, rQI, rVA, rQA, upd_at,  rAI, rLI, rJI, nI_add, pk_sub, kc_0, kc_1, kc_2, kc_3, kc_4, kc_5, reduceIte, Nat.reduceEqDiff, Nat.add_zero, rI_hold, rI_hold, rL_hold, ha, hkd, hvl]; done)) ?_
  refine Bod.ialdN j rfl (by omega) (by omega) dc_310_86 (mk_68 _) ?_
  refine Bod.eqI (nI vl) (by first | assumption | rfl | exact congrArg nI (by omega) | (simp (disch := omega) only [rI, rIe, rA, rIA, rLA, rJA, rVI, rQI, rVA, rQA, upd_at,  rAI, rLI, rJI, nI_add, pk_sub, kc_0, kc_1, kc_2, kc_3, kc_4, kc_5, reduceIte, Nat.reduceEqDiff, Nat.add_zero, rI_hold, rI_hold, rL_hold, ha, hkd, hvl]; done)) ?_
  refine Bod.sip 15421 (by decide) dc_310_87 ?_
  refine Bod.icF dc_310_90 rfl (k2_eq_F (k_ne vl 15421 rfl rfl (by omega) (by omega) (by omega))) ?_
  refine Bod.aldnG dc_310_93 (by repeat (first | exact h0 | exact sm_get_p1 | exact sm_get_p2e | refine sm_get_p1m (by decide) (by decide) ?_ | refine sm_get_p1n (by decide) rfl ?_ | refine sm_get_p2n (by decide) (by decide) rfl ?_)) ?_
  refine Bod.get dc_310_94 fr_310_135 (mk_61 _) rfl ?_
  refine Bod.aldnG dc_310_97 (by repeat (first | exact h0 | exact sm_get_p1 | exact sm_get_p2e | refine sm_get_p1m (by decide) (by decide) ?_ | refine sm_get_p1n (by decide) rfl ?_ | refine sm_get_p2n (by decide) (by decide) rfl ?_)) ?_
  refine Bod.get dc_310_98 fr_310_190 (mk_61 _) rfl ?_
  refine Bod.eqI (nI j) (by first | assumption | rfl | exact congrArg nI (by omega) | (simp (disch := omega) only [rI, rIe, rA, rIA, rLA, rJA, rVI, rQI, rVA, rQA, upd_at,  rAI, rLI, rJI, nI_add, pk_sub, kc_0, kc_1, kc_2, kc_3, kc_4, kc_5, reduceIte, Nat.reduceEqDiff, Nat.add_zero, rI_hold, rI_hold, rL_hold, ha, hkd, hvl]; done)) ?_
  refine Bod.ialdN j rfl (by omega) (by omega) dc_310_101 (mk_68 _) ?_
  refine Bod.eqI (nI vl) (by first | assumption | rfl | exact congrArg nI (by omega) | (simp (disch := omega) only [rI, rIe, rA, rIA, rLA, rJA, rVI, rQI, rVA, rQA, upd_at,  rAI, rLI, rJI, nI_add, pk_sub, kc_0, kc_1, kc_2, kc_3, kc_4, kc_5, reduceIte, Nat.reduceEqDiff, Nat.add_zero, rI_hold, rI_hold, rL_hold, ha, hkd, hvl]; done)) ?_
  refine Bod.sip 15933 (by decide) dc_310_102 ?_
  refine Bod.icT dc_310_105 rfl (k2_eq_T (k_eq vl 15933 rfl rfl (by omega))) ?_
  refine Bod.aldnG dc_310_136 (by repeat (first | exact h0 | exact sm_get_p1 | exact sm_get_p2e | refine sm_get_p1m (by decide) (by decide) ?_ | refine sm_get_p1n (by decide) rfl ?_ | refine sm_get_p2n (by decide) (by decide) rfl ?_)) ?_
  refine Bod.get dc_310_137 fr_310_135 (mk_61 _) rfl ?_
  refine Bod.aldnG dc_310_140 (by repeat (first | exact h0 | exact sm_get_p1 | exact sm_get_p2e | refine sm_get_p1m (by decide) (by decide) ?_ | refine sm_get_p1n (by decide) rfl ?_ | refine sm_get_p2n (by decide) (by decide) rfl ?_)) ?_
  refine Bod.get dc_310_141 fr_310_190 (mk_61 _) rfl ?_
  refine Bod.eqI (nI j) (by first | assumption | rfl | exact congrArg nI (by omega) | (simp (disch := omega) only [rI, rIe, rA, rIA, rLA, rJA, rVI, rQI, rVA, rQA, upd_at,  rAI, rLI, rJI, nI_add, pk_sub, kc_0, kc_1, kc_2, kc_3, kc_4, kc_5, reduceIte, Nat.reduceEqDiff, Nat.add_zero, rI_hold, rI_hold, rL_hold, ha, hkd, hvl]; done)) ?_
  refine Bod.ialdN j rfl (by omega) (by omega) dc_310_144 (mk_68 _) ?_
  refine Bod.eqI (nI vl) (by first | assumption | rfl | exact congrArg nI (by omega) | (simp (disch := omega) only [rI, rIe, rA, rIA, rLA, rJA, rVI, rQI, rVA, rQA, upd_at,  rAI, rLI, rJI, nI_add, pk_sub, kc_0, kc_1, kc_2, kc_3, kc_4, kc_5, reduceIte, Nat.reduceEqDiff, Nat.add_zero, rI_hold, rI_hold, rL_hold, ha, hkd, hvl]; done)) ?_
  refine Bod.go dc_310_145 rfl ?_
  refine Bod.istn dc_310_149 (by rw [ml_310]; exact Nat.le_of_ble_eq_true rfl) ?_
  exact hB _ (by repeat (first | exact h0 | exact sm_get_p1 | exact sm_get_p2e | refine sm_get_p1m (by decide) (by decide) ?_ | refine sm_get_p1n (by decide) rfl ?_ | refine sm_get_p2n (by decide) (by decide) rfl ?_)) (by repeat (first | exact h1 | exact sm_get_p1 | exact sm_get_p2e | refine sm_get_p1m (by decide) (by decide) ?_ | refine sm_get_p1n (by decide) rfl ?_ | refine sm_get_p2n (by decide) (by decide) rfl ?_)) (by repeat (first | exact sm_get_p1 | exact sm_get_p2e | refine sm_get_p1m (by decide) (by decide) ?_ | refine sm_get_p1n (by decide) rfl ?_ | refine sm_get_p2n (by decide) (by decide) rfl ?_ | rfl))
theorem re_cmp_s4 {d : Nat} {S Sf : cS} {lv : sm_L} {v : Option Value} {dp : Nat} {j : Nat} {kd : Nat} {vl : Nat} (h0 : sm_get lv 0 = some (.ref 61)) (h1 : sm_get lv 1 = some (.int (nI dp))) (hdp : dp ≤ 12) (hN5 : Ans (d + 8) 309 [.ref 61, .int (nI 5)] S (some (.int (nI 0))) S) (hN20 : Ans (d + 8) 309 [.ref 61, .int (nI 20)] S (some (.int (nI 0))) S) (ha : sI S 6115 = nI j) (hj : j < 6002) (hkd : sA S 67 j = nI kd) (hkM : kd < 100) (hk5 : kd = 5) (hvl : sA S 68 j = nI vl) (hvM : vl < 100000) (hvc : vl = 60) (hB : ∀ lv1 : sm_L, sm_get lv1 0 = some (.ref 61) → sm_get lv1 1 = some (.int (nI dp)) → sm_get lv1 2 = some (.int (nI vl)) → Bod (d + 8) 310 150 lv1 [] (S) v Sf) : Bod (d + 8) 310 10 lv [] S v Sf := by
  refine Bod.aldnG dc_310_10 (by repeat (first | exact h0 | exact sm_get_p1 | exact sm_get_p2e | refine sm_get_p1m (by decide) (by decide) ?_ | refine sm_get_p1n (by decide) rfl ?_ | refine sm_get_p2n (by decide) (by decide) rfl ?_)) ?_
  refine Bod.ic 5 (by decide) dc_310_11 ?_
  refine Bod.virt (r := []) dc_310_12 kr_310_312 ⟨Or.inl rfl, ow_309, cl_14⟩ (by rw [np_309]; rfl) (by rw [np_309]; rfl) (ob_of (mk_61 _)) (Nat.le_of_ble_eq_true rfl) (hN5  ) ?_
  show Bod _ _ _ _ [_] _ _ _
  refine Bod.ifT dc_310_15 rfl (k1_eq_T (k_eq 0 0 rfl rfl (by omega))) ?_
  refine Bod.aldnG dc_310_22 (by repeat (first | exact h0 | exact sm_get_p1 | exact sm_get_p2e | refine sm_get_p1m (by decide) (by decide) ?_ | refine sm_get_p1n (by decide) rfl ?_ | refine sm_get_p2n (by decide) (by decide) rfl ?_)) ?_
  refine Bod.bip 20 (by decide) dc_310_23 ?_
  refine Bod.virt (r := []) dc_310_25 kr_310_312 ⟨Or.inl rfl, ow_309, cl_14⟩ (by rw [np_309]; rfl) (by rw [np_309]; rfl) (ob_of (mk_61 _)) (Nat.le_of_ble_eq_true rfl) (hN20  ) ?_
  show Bod _ _ _ _ [_] _ _ _
  refine Bod.ifT dc_310_28 rfl (k1_eq_T (k_eq 0 0 rfl rfl (by omega))) ?_
  refine Bod.aldnG dc_310_35 (by repeat (first | exact h0 | exact sm_get_p1 | exact sm_get_p2e | refine sm_get_p1m (by decide) (by decide) ?_ | refine sm_get_p1n (by decide) rfl ?_ | refine sm_get_p2n (by decide) (by decide) rfl ?_)) ?_
  refine Bod.get dc_310_36 fr_310_129 (mk_61 _) rfl ?_
  refine Bod.aldnG dc_310_39 (by repeat (first | exact h0 | exact sm_get_p1 | exact sm_get_p2e | refine sm_get_p1m (by decide) (by decide) ?_ | refine sm_get_p1n (by decide) rfl ?_ | refine sm_get_p2n (by decide) (by decide) rfl ?_)) ?_
  refine Bod.get dc_310_40 fr_310_190 (mk_61 _) rfl ?_
  refine Bod.eqI (nI j) (by first | assumption | rfl | exact congrArg nI (by omega) | (simp (disch := omega) only [rI, rIe, rA, rIA, rLA, rJA, rVI, rQI, rVA, rQA, upd_at,  rAI, rLI, rJI, nI_add, pk_sub, kc_0, kc_1, kc_2, kc_3, kc_4, kc_5, reduceIte, Nat.reduceEqDiff, Nat.add_zero, rI_hold, rI_hold, rL_hold, ha, hkd, hvl]; done)) ?_
  refine Bod.ialdN j rfl (by omega) (by omega) dc_310_43 (mk_67 _) ?_
  refine Bod.eqI (nI kd) (by first | assumption | rfl | exact congrArg nI (by omega) | (simp (disch := omega) only [rI, rIe, rA, rIA, rLA, rJA, rVI, rQI, rVA, rQA, upd_at,  rAI, rLI, rJI, nI_add, pk_sub, kc_0, kc_1, kc_2, kc_3, kc_4, kc_5, reduceIte, Nat.reduceEqDiff, Nat.add_zero, rI_hold, rI_hold, rL_hold, ha, hkd, hvl]; done)) ?_
  refine Bod.ic 5 (by decide) dc_310_44 ?_
  refine Bod.icF dc_310_45 rfl (k2_ne_F (k_eq kd 5 rfl rfl (by omega))) ?_
  refine Bod.aldnG dc_310_48 (by repeat (first | exact h0 | exact sm_get_p1 | exact sm_get_p2e | refine sm_get_p1m (by decide) (by decide) ?_ | refine sm_get_p1n (by decide) rfl ?_ | refine sm_get_p2n (by decide) (by decide) rfl ?_)) ?_
  refine Bod.get dc_310_49 fr_310_135 (mk_61 _) rfl ?_
  refine Bod.aldnG dc_310_52 (by repeat (first | exact h0 | exact sm_get_p1 | exact sm_get_p2e | refine sm_get_p1m (by decide) (by decide) ?_ | refine sm_get_p1n (by decide) rfl ?_ | refine sm_get_p2n (by decide) (by decide) rfl ?_)) ?_
  refine Bod.get dc_310_53 fr_310_190 (mk_61 _) rfl ?_
  refine Bod.eqI (nI j) (by first | assumption | rfl | exact congrArg nI (by omega) | (simp (disch := omega) only [rI, rIe, rA, rIA, rLA, rJA, rVI, rQI, rVA, rQA, upd_at,  rAI, rLI, rJI, nI_add, pk_sub, kc_0, kc_1, kc_2, kc_3, kc_4, kc_5, reduceIte, Nat.reduceEqDiff, Nat.add_zero, rI_hold, rI_hold, rL_hold, ha, hkd, hvl]; done)) ?_
  refine Bod.ialdN j rfl (by omega) (by omega) dc_310_56 (mk_68 _) ?_
  refine Bod.eqI (nI vl) (by first | assumption | rfl | exact congrArg nI (by omega) | (simp (disch := omega) only [rI, rIe, rA, rIA, rLA, rJA, rVI, rQI, rVA, rQA, upd_at,  rAI, rLI, rJI, nI_add, pk_sub, kc_0, kc_1, kc_2, kc_3, kc_4, kc_5, reduceIte, Nat.reduceEqDiff, Nat.add_zero, rI_hold, rI_hold, rL_hold, ha, hkd, hvl]; done)) ?_
  refine Bod.sip 15677 (by decide) dc_310_57 ?_
  refine Bod.icF dc_310_60 rfl (k2_eq_F (k_ne vl 15677 rfl rfl (by omega) (by omega) (by omega))) ?_
  refine Bod.aldnG dc_310_63 (by repeat (first | exact h0 | exact sm_get_p1 | exact sm_get_p2e | refine sm_get_p1m (by decide) (by decide) ?_ | refine sm_get_p1n (by decide) rfl ?_ | refine sm_get_p2n (by decide) (by decide) rfl ?_)) ?_
  refine Bod.get dc_310_64 fr_310_135 (mk_61 _) rfl ?_
  refine Bod.aldnG dc_310_67 (by repeat (first | exact h0 | exact sm_get_p1 | exact sm_get_p2e | refine sm_get_p1m (by decide) (by decide) ?_ | refine sm_get_p1n (by decide) rfl ?_ | refine sm_get_p2n (by decide) (by decide) rfl ?_)) ?_
  refine Bod.get dc_310_68 fr_310_190 (mk_61 _) rfl ?_
  refine Bod.eqI (nI j) (by first | assumption | rfl | exact congrArg nI (by omega) | (simp (disch := omega) only [rI, rIe, rA, rIA, rLA, rJA, rVI, rQI, rVA, rQA, upd_at,  rAI, rLI, rJI, nI_add, pk_sub, kc_0, kc_1, kc_2, kc_3, kc_4, kc_5, reduceIte, Nat.reduceEqDiff, Nat.add_zero, rI_hold, rI_hold, rL_hold, ha, hkd, hvl]; done)) ?_
  refine Bod.ialdN j rfl (by omega) (by omega) dc_310_71 (mk_68 _) ?_
  refine Bod.eqI (nI vl) (by first | assumption | rfl | exact congrArg nI (by omega) | (simp (disch := omega) only [rI, rIe, rA, rIA, rLA, rJA, rVI, rQI, rVA, rQA, upd_at,  rAI, rLI, rJI, nI_add, pk_sub, kc_0, kc_1, kc_2, kc_3, kc_4, kc_5, reduceIte, Nat.reduceEqDiff, Nat.add_zero, rI_hold, rI_hold, rL_hold, ha, hkd, hvl]; done)) ?_
  refine Bod.sip 8509 (by decide) dc_310_72 ?_
  refine Bod.icF dc_310_75 rfl (k2_eq_F (k_ne vl 8509 rfl rfl (by omega) (by omega) (by omega))) ?_
  refine Bod.aldnG dc_310_78 (by repeat (first | exact h0 | exact sm_get_p1 | exact sm_get_p2e | refine sm_get_p1m (by decide) (by decide) ?_ | refine sm_get_p1n (by decide) rfl ?_ | refine sm_get_p2n (by decide) (by decide) rfl ?_)) ?_
  refine Bod.get dc_310_79 fr_310_135 (mk_61 _) rfl ?_
  refine Bod.aldnG dc_310_82 (by repeat (first | exact h0 | exact sm_get_p1 | exact sm_get_p2e | refine sm_get_p1m (by decide) (by decide) ?_ | refine sm_get_p1n (by decide) rfl ?_ | refine sm_get_p2n (by decide) (by decide) rfl ?_)) ?_
  refine Bod.get dc_310_83 fr_310_190 (mk_61 _) rfl ?_
  refine Bod.eqI (nI j) (by first | assumption | rfl | exact congrArg nI (by omega) | (simp (disch := omega) only [rI, rIe, rA, rIA, rLA, rJA, rVI, rQI, rVA, rQA, upd_at,  rAI, rLI, rJI, nI_add, pk_sub, kc_0, kc_1, kc_2, kc_3, kc_4, kc_5, reduceIte, Nat.reduceEqDiff, Nat.add_zero, rI_hold, rI_hold, rL_hold, ha, hkd, hvl]; done)) ?_
  refine Bod.ialdN j rfl (by omega) (by omega) dc_310_86 (mk_68 _) ?_
  refine Bod.eqI (nI vl) (by first | assumption | rfl | exact congrArg nI (by omega) | (simp (disch := omega) only [rI, rIe, rA, rIA, rLA, rJA, rVI, rQI, rVA, rQA, upd_at,  rAI, rLI, rJI, nI_add, pk_sub, kc_0, kc_1, kc_2, kc_3, kc_4, kc_5, reduceIte, Nat.reduceEqDiff, Nat.add_zero, rI_hold, rI_hold, rL_hold, ha, hkd, hvl]; done)) ?_
  refine Bod.sip 15421 (by decide) dc_310_87 ?_
  refine Bod.icF dc_310_90 rfl (k2_eq_F (k_ne vl 15421 rfl rfl (by omega) (by omega) (by omega))) ?_
  refine Bod.aldnG dc_310_93 (by repeat (first | exact h0 | exact sm_get_p1 | exact sm_get_p2e | refine sm_get_p1m (by decide) (by decide) ?_ | refine sm_get_p1n (by decide) rfl ?_ | refine sm_get_p2n (by decide) (by decide) rfl ?_)) ?_
  refine Bod.get dc_310_94 fr_310_135 (mk_61 _) rfl ?_
  refine Bod.aldnG dc_310_97 (by repeat (first | exact h0 | exact sm_get_p1 | exact sm_get_p2e | refine sm_get_p1m (by decide) (by decide) ?_ | refine sm_get_p1n (by decide) rfl ?_ | refine sm_get_p2n (by decide) (by decide) rfl ?_)) ?_
  refine Bod.get dc_310_98 fr_310_190 (mk_61 _) rfl ?_
  refine Bod.eqI (nI j) (by first | assumption | rfl | exact congrArg nI (by omega) | (simp (disch := omega) only [rI, rIe, rA, rIA, rLA, rJA, rVI, rQI, rVA, rQA, upd_at,  rAI, rLI, rJI, nI_add, pk_sub, kc_0, kc_1, kc_2, kc_3, kc_4, kc_5, reduceIte, Nat.reduceEqDiff, Nat.add_zero, rI_hold, rI_hold, rL_hold, ha, hkd, hvl]; done)) ?_
  refine Bod.ialdN j rfl (by omega) (by omega) dc_310_101 (mk_68 _) ?_
  refine Bod.eqI (nI vl) (by first | assumption | rfl | exact congrArg nI (by omega) | (simp (disch := omega) only [rI, rIe, rA, rIA, rLA, rJA, rVI, rQI, rVA, rQA, upd_at,  rAI, rLI, rJI, nI_add, pk_sub, kc_0, kc_1, kc_2, kc_3, kc_4, kc_5, reduceIte, Nat.reduceEqDiff, Nat.add_zero, rI_hold, rI_hold, rL_hold, ha, hkd, hvl]; done)) ?_
  refine Bod.sip 15933 (by decide) dc_310_102 ?_
  refine Bod.icF dc_310_105 rfl (k2_eq_F (k_ne vl 15933 rfl rfl (by omega) (by omega) (by omega))) ?_
  refine Bod.aldnG dc_310_108 (by repeat (first | exact h0 | exact sm_get_p1 | exact sm_get_p2e | refine sm_get_p1m (by decide) (by decide) ?_ | refine sm_get_p1n (by decide) rfl ?_ | refine sm_get_p2n (by decide) (by decide) rfl ?_)) ?_
  refine Bod.get dc_310_109 fr_310_135 (mk_61 _) rfl ?_
  refine Bod.aldnG dc_310_112 (by repeat (first | exact h0 | exact sm_get_p1 | exact sm_get_p2e | refine sm_get_p1m (by decide) (by decide) ?_ | refine sm_get_p1n (by decide) rfl ?_ | refine sm_get_p2n (by decide) (by decide) rfl ?_)) ?_
  refine Bod.get dc_310_113 fr_310_190 (mk_61 _) rfl ?_
  refine Bod.eqI (nI j) (by first | assumption | rfl | exact congrArg nI (by omega) | (simp (disch := omega) only [rI, rIe, rA, rIA, rLA, rJA, rVI, rQI, rVA, rQA, upd_at,  rAI, rLI, rJI, nI_add, pk_sub, kc_0, kc_1, kc_2, kc_3, kc_4, kc_5, reduceIte, Nat.reduceEqDiff, Nat.add_zero, rI_hold, rI_hold, rL_hold, ha, hkd, hvl]; done)) ?_
  refine Bod.ialdN j rfl (by omega) (by omega) dc_310_116 (mk_68 _) ?_
  refine Bod.eqI (nI vl) (by first | assumption | rfl | exact congrArg nI (by omega) | (simp (disch := omega) only [rI, rIe, rA, rIA, rLA, rJA, rVI, rQI, rVA, rQA, upd_at,  rAI, rLI, rJI, nI_add, pk_sub, kc_0, kc_1, kc_2, kc_3, kc_4, kc_5, reduceIte, Nat.reduceEqDiff, Nat.add_zero, rI_hold, rI_hold, rL_hold, ha, hkd, hvl]; done)) ?_
  refine Bod.bip 60 (by decide) dc_310_117 ?_
  refine Bod.icT dc_310_119 rfl (k2_eq_T (k_eq vl 60 rfl rfl (by omega))) ?_
  refine Bod.aldnG dc_310_136 (by repeat (first | exact h0 | exact sm_get_p1 | exact sm_get_p2e | refine sm_get_p1m (by decide) (by decide) ?_ | refine sm_get_p1n (by decide) rfl ?_ | refine sm_get_p2n (by decide) (by decide) rfl ?_)) ?_
  refine Bod.get dc_310_137 fr_310_135 (mk_61 _) rfl ?_
  refine Bod.aldnG dc_310_140 (by repeat (first | exact h0 | exact sm_get_p1 | exact sm_get_p2e | refine sm_get_p1m (by decide) (by decide) ?_ | refine sm_get_p1n (by decide) rfl ?_ | refine sm_get_p2n (by decide) (by decide) rfl ?_)) ?_
  refine Bod.get dc_310_141 fr_310_190 (mk_61 _) rfl ?_
  refine Bod.eqI (nI j) (by first | assumption | rfl | exact congrArg nI (by omega) | (simp (disch := omega) only [rI, rIe, rA, rIA, rLA, rJA, rVI, rQI, rVA, rQA, upd_at,  rAI, rLI, rJI, nI_add, pk_sub, kc_0, kc_1, kc_2, kc_3, kc_4, kc_5, reduceIte, Nat.reduceEqDiff, Nat.add_zero, rI_hold, rI_hold, rL_hold, ha, hkd, hvl]; done)) ?_
  refine Bod.ialdN j rfl (by omega) (by omega) dc_310_144 (mk_68 _) ?_
  refine Bod.eqI (nI vl) (by first | assumption | rfl | exact congrArg nI (by omega) | (simp (disch := omega) only [rI, rIe, rA, rIA, rLA, rJA, rVI, rQI, rVA, rQA, upd_at,  rAI, rLI, rJI, nI_add, pk_sub, kc_0, kc_1, kc_2, kc_3, kc_4, kc_5, reduceIte, Nat.reduceEqDiff, Nat.add_zero, rI_hold, rI_hold, rL_hold, ha, hkd, hvl]; done)) ?_
  refine Bod.go dc_310_145 rfl ?_
  refine Bod.istn dc_310_149 (by rw [ml_310]; exact Nat.le_of_ble_eq_true rfl) ?_
  exact hB _ (by repeat (first | exact h0 | exact sm_get_p1 | exact sm_get_p2e | refine sm_get_p1m (by decide) (by decide) ?_ | refine sm_get_p1n (by decide) rfl ?_ | refine sm_get_p2n (by decide) (by decide) rfl ?_)) (by repeat (first | exact h1 | exact sm_get_p1 | exact sm_get_p2e | refine sm_get_p1m (by decide) (by decide) ?_ | refine sm_get_p1n (by decide) rfl ?_ | refine sm_get_p2n (by decide) (by decide) rfl ?_)) (by repeat (first | exact sm_get_p1 | exact sm_get_p2e | refine sm_get_p1m (by decide) (by decide) ?_ | refine sm_get_p1n (by decide) rfl ?_ | refine sm_get_p2n (by decide) (by decide) rfl ?_ | rfl))
theorem re_cmp_s5 {d : Nat} {S Sf : cS} {lv : sm_L} {v : Option Value} {dp : Nat} {j : Nat} {kd : Nat} {vl : Nat} (h0 : sm_get lv 0 = some (.ref 61)) (h1 : sm_get lv 1 = some (.int (nI dp))) (hdp : dp ≤ 12) (hN5 : Ans (d + 8) 309 [.ref 61, .int (nI 5)] S (some (.int (nI 0))) S) (hN20 : Ans (d + 8) 309 [.ref 61, .int (nI 20)] S (some (.int (nI 0))) S) (ha : sI S 6115 = nI j) (hj : j < 6002) (hkd : sA S 67 j = nI kd) (hkM : kd < 100) (hk5 : kd = 5) (hvl : sA S 68 j = nI vl) (hvM : vl < 100000) (hvc : vl = 62) (hB : ∀ lv1 : sm_L, sm_get lv1 0 = some (.ref 61) → sm_get lv1 1 = some (.int (nI dp)) → sm_get lv1 2 = some (.int (nI vl)) → Bod (d + 8) 310 150 lv1 [] (S) v Sf) : Bod (d + 8) 310 10 lv [] S v Sf := by
  refine Bod.aldnG dc_310_10 (by repeat (first | exact h0 | exact sm_get_p1 | exact sm_get_p2e | refine sm_get_p1m (by decide) (by decide) ?_ | refine sm_get_p1n (by decide) rfl ?_ | refine sm_get_p2n (by decide) (by decide) rfl ?_)) ?_
  refine Bod.ic 5 (by decide) dc_310_11 ?_
  refine Bod.virt (r := []) dc_310_12 kr_310_312 ⟨Or.inl rfl, ow_309, cl_14⟩ (by rw [np_309]; rfl) (by rw [np_309]; rfl) (ob_of (mk_61 _)) (Nat.le_of_ble_eq_true rfl) (hN5  ) ?_
  show Bod _ _ _ _ [_] _ _ _
  refine Bod.ifT dc_310_15 rfl (k1_eq_T (k_eq 0 0 rfl rfl (by omega))) ?_
  refine Bod.aldnG dc_310_22 (by repeat (first | exact h0 | exact sm_get_p1 | exact sm_get_p2e | refine sm_get_p1m (by decide) (by decide) ?_ | refine sm_get_p1n (by decide) rfl ?_ | refine sm_get_p2n (by decide) (by decide) rfl ?_)) ?_
  refine Bod.bip 20 (by decide) dc_310_23 ?_
  refine Bod.virt (r := []) dc_310_25 kr_310_312 ⟨Or.inl rfl, ow_309, cl_14⟩ (by rw [np_309]; rfl) (by rw [np_309]; rfl) (ob_of (mk_61 _)) (Nat.le_of_ble_eq_true rfl) (hN20  ) ?_
  show Bod _ _ _ _ [_] _ _ _
  refine Bod.ifT dc_310_28 rfl (k1_eq_T (k_eq 0 0 rfl rfl (by omega))) ?_
  refine Bod.aldnG dc_310_35 (by repeat (first | exact h0 | exact sm_get_p1 | exact sm_get_p2e | refine sm_get_p1m (by decide) (by decide) ?_ | refine sm_get_p1n (by decide) rfl ?_ | refine sm_get_p2n (by decide) (by decide) rfl ?_)) ?_
  refine Bod.get dc_310_36 fr_310_129 (mk_61 _) rfl ?_
  refine Bod.aldnG dc_310_39 (by repeat (first | exact h0 | exact sm_get_p1 | exact sm_get_p2e | refine sm_get_p1m (by decide) (by decide) ?_ | refine sm_get_p1n (by decide) rfl ?_ | refine sm_get_p2n (by decide) (by decide) rfl ?_)) ?_
  refine Bod.get dc_310_40 fr_310_190 (mk_61 _) rfl ?_
  refine Bod.eqI (nI j) (by first | assumption | rfl | exact congrArg nI (by omega) | (simp (disch := omega) only [rI, rIe, rA, rIA, rLA, rJA, rVI, rQI, rVA, rQA, upd_at,  rAI, rLI, rJI, nI_add, pk_sub, kc_0, kc_1, kc_2, kc_3, kc_4, kc_5, reduceIte, Nat.reduceEqDiff, Nat.add_zero, rI_hold, rI_hold, rL_hold, ha, hkd, hvl]; done)) ?_
  refine Bod.ialdN j rfl (by omega) (by omega) dc_310_43 (mk_67 _) ?_
  refine Bod.eqI (nI kd) (by first | assumption | rfl | exact congrArg nI (by omega) | (simp (disch := omega) only [rI, rIe, rA, rIA, rLA, rJA, rVI, rQI, rVA, rQA, upd_at,  rAI, rLI, rJI, nI_add, pk_sub, kc_0, kc_1, kc_2, kc_3, kc_4, kc_5, reduceIte, Nat.reduceEqDiff, Nat.add_zero, rI_hold, rI_hold, rL_hold, ha, hkd, hvl]; done)) ?_
  refine Bod.ic 5 (by decide) dc_310_44 ?_
  refine Bod.icF dc_310_45 rfl (k2_ne_F (k_eq kd 5 rfl rfl (by omega))) ?_
  refine Bod.aldnG dc_310_48 (by repeat (first | exact h0 | exact sm_get_p1 | exact sm_get_p2e | refine sm_get_p1m (by decide) (by decide) ?_ | refine sm_get_p1n (by decide) rfl ?_ | refine sm_get_p2n (by decide) (by decide) rfl ?_)) ?_
  refine Bod.get dc_310_49 fr_310_135 (mk_61 _) rfl ?_
  refine Bod.aldnG dc_310_52 (by repeat (first | exact h0 | exact sm_get_p1 | exact sm_get_p2e | refine sm_get_p1m (by decide) (by decide) ?_ | refine sm_get_p1n (by decide) rfl ?_ | refine sm_get_p2n (by decide) (by decide) rfl ?_)) ?_
  refine Bod.get dc_310_53 fr_310_190 (mk_61 _) rfl ?_
  refine Bod.eqI (nI j) (by first | assumption | rfl | exact congrArg nI (by omega) | (simp (disch := omega) only [rI, rIe, rA, rIA, rLA, rJA, rVI, rQI, rVA, rQA, upd_at,  rAI, rLI, rJI, nI_add, pk_sub, kc_0, kc_1, kc_2, kc_3, kc_4, kc_5, reduceIte, Nat.reduceEqDiff, Nat.add_zero, rI_hold, rI_hold, rL_hold, ha, hkd, hvl]; done)) ?_
  refine Bod.ialdN j rfl (by omega) (by omega) dc_310_56 (mk_68 _) ?_
  refine Bod.eqI (nI vl) (by first | assumption | rfl | exact congrArg nI (by omega) | (simp (disch := omega) only [rI, rIe, rA, rIA, rLA, rJA, rVI, rQI, rVA, rQA, upd_at,  rAI, rLI, rJI, nI_add, pk_sub, kc_0, kc_1, kc_2, kc_3, kc_4, kc_5, reduceIte, Nat.reduceEqDiff, Nat.add_zero, rI_hold, rI_hold, rL_hold, ha, hkd, hvl]; done)) ?_
  refine Bod.sip 15677 (by decide) dc_310_57 ?_
  refine Bod.icF dc_310_60 rfl (k2_eq_F (k_ne vl 15677 rfl rfl (by omega) (by omega) (by omega))) ?_
  refine Bod.aldnG dc_310_63 (by repeat (first | exact h0 | exact sm_get_p1 | exact sm_get_p2e | refine sm_get_p1m (by decide) (by decide) ?_ | refine sm_get_p1n (by decide) rfl ?_ | refine sm_get_p2n (by decide) (by decide) rfl ?_)) ?_
  refine Bod.get dc_310_64 fr_310_135 (mk_61 _) rfl ?_
  refine Bod.aldnG dc_310_67 (by repeat (first | exact h0 | exact sm_get_p1 | exact sm_get_p2e | refine sm_get_p1m (by decide) (by decide) ?_ | refine sm_get_p1n (by decide) rfl ?_ | refine sm_get_p2n (by decide) (by decide) rfl ?_)) ?_
  refine Bod.get dc_310_68 fr_310_190 (mk_61 _) rfl ?_
  refine Bod.eqI (nI j) (by first | assumption | rfl | exact congrArg nI (by omega) | (simp (disch := omega) only [rI, rIe, rA, rIA, rLA, rJA, rVI, rQI, rVA, rQA, upd_at,  rAI, rLI, rJI, nI_add, pk_sub, kc_0, kc_1, kc_2, kc_3, kc_4, kc_5, reduceIte, Nat.reduceEqDiff, Nat.add_zero, rI_hold, rI_hold, rL_hold, ha, hkd, hvl]; done)) ?_
  refine Bod.ialdN j rfl (by omega) (by omega) dc_310_71 (mk_68 _) ?_
  refine Bod.eqI (nI vl) (by first | assumption | rfl | exact congrArg nI (by omega) | (simp (disch := omega) only [rI, rIe, rA, rIA, rLA, rJA, rVI, rQI, rVA, rQA, upd_at,  rAI, rLI, rJI, nI_add, pk_sub, kc_0, kc_1, kc_2, kc_3, kc_4, kc_5, reduceIte, Nat.reduceEqDiff, Nat.add_zero, rI_hold, rI_hold, rL_hold, ha, hkd, hvl]; done)) ?_
  refine Bod.sip 8509 (by decide) dc_310_72 ?_
  refine Bod.icF dc_310_75 rfl (k2_eq_F (k_ne vl 8509 rfl rfl (by omega) (by omega) (by omega))) ?_
  refine Bod.aldnG dc_310_78 (by repeat (first | exact h0 | exact sm_get_p1 | exact sm_get_p2e | refine sm_get_p1m (by decide) (by decide) ?_ | refine sm_get_p1n (by decide) rfl ?_ | refine sm_get_p2n (by decide) (by decide) rfl ?_)) ?_
  refine Bod.get dc_310_79 fr_310_135 (mk_61 _) rfl ?_
  refine Bod.aldnG dc_310_82 (by repeat (first | exact h0 | exact sm_get_p1 | exact sm_get_p2e | refine sm_get_p1m (by decide) (by decide) ?_ | refine sm_get_p1n (by decide) rfl ?_ | refine sm_get_p2n (by decide) (by decide) rfl ?_)) ?_
  refine Bod.get dc_310_83 fr_310_190 (mk_61 _) rfl ?_
  refine Bod.eqI (nI j) (by first | assumption | rfl | exact congrArg nI (by omega) | (simp (disch := omega) only [rI, rIe, rA, rIA, rLA, rJA, rVI, rQI, rVA, rQA, upd_at,  rAI, rLI, rJI, nI_add, pk_sub, kc_0, kc_1, kc_2, kc_3, kc_4, kc_5, reduceIte, Nat.reduceEqDiff, Nat.add_zero, rI_hold, rI_hold, rL_hold, ha, hkd, hvl]; done)) ?_
  refine Bod.ialdN j rfl (by omega) (by omega) dc_310_86 (mk_68 _) ?_
  refine Bod.eqI (nI vl) (by first | assumption | rfl | exact congrArg nI (by omega) | (simp (disch := omega) only [rI, rIe, rA, rIA, rLA, rJA, rVI, rQI, rVA, rQA, upd_at,  rAI, rLI, rJI, nI_add, pk_sub, kc_0, kc_1, kc_2, kc_3, kc_4, kc_5, reduceIte, Nat.reduceEqDiff, Nat.add_zero, rI_hold, rI_hold, rL_hold, ha, hkd, hvl]; done)) ?_
  refine Bod.sip 15421 (by decide) dc_310_87 ?_
  refine Bod.icF dc_310_90 rfl (k2_eq_F (k_ne vl 15421 rfl rfl (by omega) (by omega) (by omega))) ?_
  refine Bod.aldnG dc_310_93 (by repeat (first | exact h0 | exact sm_get_p1 | exact sm_get_p2e | refine sm_get_p1m (by decide) (by decide) ?_ | refine sm_get_p1n (by decide) rfl ?_ | refine sm_get_p2n (by decide) (by decide) rfl ?_)) ?_
  refine Bod.get dc_310_94 fr_310_135 (mk_61 _) rfl ?_
  refine Bod.aldnG dc_310_97 (by repeat (first | exact h0 | exact sm_get_p1 | exact sm_get_p2e | refine sm_get_p1m (by decide) (by decide) ?_ | refine sm_get_p1n (by decide) rfl ?_ | refine sm_get_p2n (by decide) (by decide) rfl ?_)) ?_
  refine Bod.get dc_310_98 fr_310_190 (mk_61 _) rfl ?_
  refine Bod.eqI (nI j) (by first | assumption | rfl | exact congrArg nI (by omega) | (simp (disch := omega) only [rI, rIe, rA, rIA, rLA, rJA, rVI, rQI, rVA, rQA, upd_at,  rAI, rLI, rJI, nI_add, pk_sub, kc_0, kc_1, kc_2, kc_3, kc_4, kc_5, reduceIte, Nat.reduceEqDiff, Nat.add_zero, rI_hold, rI_hold, rL_hold, ha, hkd, hvl]; done)) ?_
  refine Bod.ialdN j rfl (by omega) (by omega) dc_310_101 (mk_68 _) ?_
  refine Bod.eqI (nI vl) (by first | assumption | rfl | exact congrArg nI (by omega) | (simp (disch := omega) only [rI, rIe, rA, rIA, rLA, rJA, rVI, rQI, rVA, rQA, upd_at,  rAI, rLI, rJI, nI_add, pk_sub, kc_0, kc_1, kc_2, kc_3, kc_4, kc_5, reduceIte, Nat.reduceEqDiff, Nat.add_zero, rI_hold, rI_hold, rL_hold, ha, hkd, hvl]; done)) ?_
  refine Bod.sip 15933 (by decide) dc_310_102 ?_
  refine Bod.icF dc_310_105 rfl (k2_eq_F (k_ne vl 15933 rfl rfl (by omega) (by omega) (by omega))) ?_
  refine Bod.aldnG dc_310_108 (by repeat (first | exact h0 | exact sm_get_p1 | exact sm_get_p2e | refine sm_get_p1m (by decide) (by decide) ?_ | refine sm_get_p1n (by decide) rfl ?_ | refine sm_get_p2n (by decide) (by decide) rfl ?_)) ?_
  refine Bod.get dc_310_109 fr_310_135 (mk_61 _) rfl ?_
  refine Bod.aldnG dc_310_112 (by repeat (first | exact h0 | exact sm_get_p1 | exact sm_get_p2e | refine sm_get_p1m (by decide) (by decide) ?_ | refine sm_get_p1n (by decide) rfl ?_ | refine sm_get_p2n (by decide) (by decide) rfl ?_)) ?_
  refine Bod.get dc_310_113 fr_310_190 (mk_61 _) rfl ?_
  refine Bod.eqI (nI j) (by first | assumption | rfl | exact congrArg nI (by omega) | (simp (disch := omega) only [rI, rIe, rA, rIA, rLA, rJA, rVI, rQI, rVA, rQA, upd_at,  rAI, rLI, rJI, nI_add, pk_sub, kc_0, kc_1, kc_2, kc_3, kc_4, kc_5, reduceIte, Nat.reduceEqDiff, Nat.add_zero, rI_hold, rI_hold, rL_hold, ha, hkd, hvl]; done)) ?_
  refine Bod.ialdN j rfl (by omega) (by omega) dc_310_116 (mk_68 _) ?_
  refine Bod.eqI (nI vl) (by first | assumption | rfl | exact congrArg nI (by omega) | (simp (disch := omega) only [rI, rIe, rA, rIA, rLA, rJA, rVI, rQI, rVA, rQA, upd_at,  rAI, rLI, rJI, nI_add, pk_sub, kc_0, kc_1, kc_2, kc_3, kc_4, kc_5, reduceIte, Nat.reduceEqDiff, Nat.add_zero, rI_hold, rI_hold, rL_hold, ha, hkd, hvl]; done)) ?_
  refine Bod.bip 60 (by decide) dc_310_117 ?_
  refine Bod.icF dc_310_119 rfl (k2_eq_F (k_ne vl 60 rfl rfl (by omega) (by omega) (by omega))) ?_
  refine Bod.aldnG dc_310_122 (by repeat (first | exact h0 | exact sm_get_p1 | exact sm_get_p2e | refine sm_get_p1m (by decide) (by decide) ?_ | refine sm_get_p1n (by decide) rfl ?_ | refine sm_get_p2n (by decide) (by decide) rfl ?_)) ?_
  refine Bod.get dc_310_123 fr_310_135 (mk_61 _) rfl ?_
  refine Bod.aldnG dc_310_126 (by repeat (first | exact h0 | exact sm_get_p1 | exact sm_get_p2e | refine sm_get_p1m (by decide) (by decide) ?_ | refine sm_get_p1n (by decide) rfl ?_ | refine sm_get_p2n (by decide) (by decide) rfl ?_)) ?_
  refine Bod.get dc_310_127 fr_310_190 (mk_61 _) rfl ?_
  refine Bod.eqI (nI j) (by first | assumption | rfl | exact congrArg nI (by omega) | (simp (disch := omega) only [rI, rIe, rA, rIA, rLA, rJA, rVI, rQI, rVA, rQA, upd_at,  rAI, rLI, rJI, nI_add, pk_sub, kc_0, kc_1, kc_2, kc_3, kc_4, kc_5, reduceIte, Nat.reduceEqDiff, Nat.add_zero, rI_hold, rI_hold, rL_hold, ha, hkd, hvl]; done)) ?_
  refine Bod.ialdN j rfl (by omega) (by omega) dc_310_130 (mk_68 _) ?_
  refine Bod.eqI (nI vl) (by first | assumption | rfl | exact congrArg nI (by omega) | (simp (disch := omega) only [rI, rIe, rA, rIA, rLA, rJA, rVI, rQI, rVA, rQA, upd_at,  rAI, rLI, rJI, nI_add, pk_sub, kc_0, kc_1, kc_2, kc_3, kc_4, kc_5, reduceIte, Nat.reduceEqDiff, Nat.add_zero, rI_hold, rI_hold, rL_hold, ha, hkd, hvl]; done)) ?_
  refine Bod.bip 62 (by decide) dc_310_131 ?_
  refine Bod.icF dc_310_133 rfl (k2_ne_F (k_eq vl 62 rfl rfl (by omega))) ?_
  refine Bod.aldnG dc_310_136 (by repeat (first | exact h0 | exact sm_get_p1 | exact sm_get_p2e | refine sm_get_p1m (by decide) (by decide) ?_ | refine sm_get_p1n (by decide) rfl ?_ | refine sm_get_p2n (by decide) (by decide) rfl ?_)) ?_
  refine Bod.get dc_310_137 fr_310_135 (mk_61 _) rfl ?_
  refine Bod.aldnG dc_310_140 (by repeat (first | exact h0 | exact sm_get_p1 | exact sm_get_p2e | refine sm_get_p1m (by decide) (by decide) ?_ | refine sm_get_p1n (by decide) rfl ?_ | refine sm_get_p2n (by decide) (by decide) rfl ?_)) ?_
  refine Bod.get dc_310_141 fr_310_190 (mk_61 _) rfl ?_
  refine Bod.eqI (nI j) (by first | assumption | rfl | exact congrArg nI (by omega) | (simp (disch := omega) only [rI, rIe, rA, rIA, rLA, rJA, rVI, rQI, rVA, rQA, upd_at,  rAI, rLI, rJI, nI_add, pk_sub, kc_0, kc_1, kc_2, kc_3, kc_4, kc_5, reduceIte, Nat.reduceEqDiff, Nat.add_zero, rI_hold, rI_hold, rL_hold, ha, hkd, hvl]; done)) ?_
  refine Bod.ialdN j rfl (by omega) (by omega) dc_310_144 (mk_68 _) ?_
  refine Bod.eqI (nI vl) (by first | assumption | rfl | exact congrArg nI (by omega) | (simp (disch := omega) only [rI, rIe, rA, rIA, rLA, rJA, rVI, rQI, rVA, rQA, upd_at,  rAI, rLI, rJI, nI_add, pk_sub, kc_0, kc_1, kc_2, kc_3, kc_4, kc_5, reduceIte, Nat.reduceEqDiff, Nat.add_zero, rI_hold, rI_hold, rL_hold, ha, hkd, hvl]; done)) ?_
  refine Bod.go dc_310_145 rfl ?_
  refine Bod.istn dc_310_149 (by rw [ml_310]; exact Nat.le_of_ble_eq_true rfl) ?_
  exact hB _ (by repeat (first | exact h0 | exact sm_get_p1 | exact sm_get_p2e | refine sm_get_p1m (by decide) (by decide) ?_ | refine sm_get_p1n (by decide) rfl ?_ | refine sm_get_p2n (by decide) (by decide) rfl ?_)) (by repeat (first | exact h1 | exact sm_get_p1 | exact sm_get_p2e | refine sm_get_p1m (by decide) (by decide) ?_ | refine sm_get_p1n (by decide) rfl ?_ | refine sm_get_p2n (by decide) (by decide) rfl ?_)) (by repeat (first | exact sm_get_p1 | exact sm_get_p2e | refine sm_get_p1m (by decide) (by decide) ?_ | refine sm_get_p1n (by decide) rfl ?_ | refine sm_get_p2n (by decide) (by decide) rfl ?_ | rfl))
theorem re_cmp_o {d : Nat} {S Sf : cS} {lv : sm_L} {v : Option Value} {dp : Nat} {j : Nat} {kd : Nat} {vl : Nat} (h0 : sm_get lv 0 = some (.ref 61)) (h1 : sm_get lv 1 = some (.int (nI dp))) (hdp : dp ≤ 12) (hN5 : Ans (d + 8) 309 [.ref 61, .int (nI 5)] S (some (.int (nI 0))) S) (hN20 : Ans (d + 8) 309 [.ref 61, .int (nI 20)] S (some (.int (nI 0))) S) (ha : sI S 6115 = nI j) (hj : j < 6002) (hkd : sA S 67 j = nI kd) (hkM : kd < 100) (hk5 : kd = 5) (hvl : sA S 68 j = nI vl) (hvM : vl < 100000) (hn0 : vl ≠ 15677) (hn1 : vl ≠ 8509) (hn2 : vl ≠ 15421) (hn3 : vl ≠ 15933) (hn4 : vl ≠ 60) (hn5 : vl ≠ 62) (hB : ∀ lv1 : sm_L, sm_get lv1 0 = some (.ref 61) → sm_get lv1 1 = some (.int (nI dp)) → sm_get lv1 2 = some (.int (nI 0)) → Bod (d + 8) 310 150 lv1 [] (S) v Sf) : Bod (d + 8) 310 10 lv [] S v Sf := by
  refine Bod.aldnG dc_310_10 (by repeat (first | exact h0 | exact sm_get_p1 | exact sm_get_p2e | refine sm_get_p1m (by decide) (by decide) ?_ | refine sm_get_p1n (by decide) rfl ?_ | refine sm_get_p2n (by decide) (by decide) rfl ?_)) ?_
  refine Bod.ic 5 (by decide) dc_310_11 ?_
  refine Bod.virt (r := []) dc_310_12 kr_310_312 ⟨Or.inl rfl, ow_309, cl_14⟩ (by rw [np_309]; rfl) (by rw [np_309]; rfl) (ob_of (mk_61 _)) (Nat.le_of_ble_eq_true rfl) (hN5  ) ?_
  show Bod _ _ _ _ [_] _ _ _
  refine Bod.ifT dc_310_15 rfl (k1_eq_T (k_eq 0 0 rfl rfl (by omega))) ?_
  refine Bod.aldnG dc_310_22 (by repeat (first | exact h0 | exact sm_get_p1 | exact sm_get_p2e | refine sm_get_p1m (by decide) (by decide) ?_ | refine sm_get_p1n (by decide) rfl ?_ | refine sm_get_p2n (by decide) (by decide) rfl ?_)) ?_
  refine Bod.bip 20 (by decide) dc_310_23 ?_
  refine Bod.virt (r := []) dc_310_25 kr_310_312 ⟨Or.inl rfl, ow_309, cl_14⟩ (by rw [np_309]; rfl) (by rw [np_309]; rfl) (ob_of (mk_61 _)) (Nat.le_of_ble_eq_true rfl) (hN20  ) ?_
  show Bod _ _ _ _ [_] _ _ _
  refine Bod.ifT dc_310_28 rfl (k1_eq_T (k_eq 0 0 rfl rfl (by omega))) ?_
  refine Bod.aldnG dc_310_35 (by repeat (first | exact h0 | exact sm_get_p1 | exact sm_get_p2e | refine sm_get_p1m (by decide) (by decide) ?_ | refine sm_get_p1n (by decide) rfl ?_ | refine sm_get_p2n (by decide) (by decide) rfl ?_)) ?_
  refine Bod.get dc_310_36 fr_310_129 (mk_61 _) rfl ?_
  refine Bod.aldnG dc_310_39 (by repeat (first | exact h0 | exact sm_get_p1 | exact sm_get_p2e | refine sm_get_p1m (by decide) (by decide) ?_ | refine sm_get_p1n (by decide) rfl ?_ | refine sm_get_p2n (by decide) (by decide) rfl ?_)) ?_
  refine Bod.get dc_310_40 fr_310_190 (mk_61 _) rfl ?_
  refine Bod.eqI (nI j) (by first | assumption | rfl | exact congrArg nI (by omega) | (simp (disch := omega) only [rI, rIe, rA, rIA, rLA, rJA, rVI, rQI, rVA, rQA, upd_at,  rAI, rLI, rJI, nI_add, pk_sub, kc_0, kc_1, kc_2, kc_3, kc_4, kc_5, reduceIte, Nat.reduceEqDiff, Nat.add_zero, rI_hold, rI_hold, rL_hold, ha, hkd, hvl]; done)) ?_
  refine Bod.ialdN j rfl (by omega) (by omega) dc_310_43 (mk_67 _) ?_
  refine Bod.eqI (nI kd) (by first | assumption | rfl | exact congrArg nI (by omega) | (simp (disch := omega) only [rI, rIe, rA, rIA, rLA, rJA, rVI, rQI, rVA, rQA, upd_at,  rAI, rLI, rJI, nI_add, pk_sub, kc_0, kc_1, kc_2, kc_3, kc_4, kc_5, reduceIte, Nat.reduceEqDiff, Nat.add_zero, rI_hold, rI_hold, rL_hold, ha, hkd, hvl]; done)) ?_
  refine Bod.ic 5 (by decide) dc_310_44 ?_
  refine Bod.icF dc_310_45 rfl (k2_ne_F (k_eq kd 5 rfl rfl (by omega))) ?_
  refine Bod.aldnG dc_310_48 (by repeat (first | exact h0 | exact sm_get_p1 | exact sm_get_p2e | refine sm_get_p1m (by decide) (by decide) ?_ | refine sm_get_p1n (by decide) rfl ?_ | refine sm_get_p2n (by decide) (by decide) rfl ?_)) ?_
  refine Bod.get dc_310_49 fr_310_135 (mk_61 _) rfl ?_
  refine Bod.aldnG dc_310_52 (by repeat (first | exact h0 | exact sm_get_p1 | exact sm_get_p2e | refine sm_get_p1m (by decide) (by decide) ?_ | refine sm_get_p1n (by decide) rfl ?_ | refine sm_get_p2n (by decide) (by decide) rfl ?_)) ?_
  refine Bod.get dc_310_53 fr_310_190 (mk_61 _) rfl ?_
  refine Bod.eqI (nI j) (by first | assumption | rfl | exact congrArg nI (by omega) | (simp (disch := omega) only [rI, rIe, rA, rIA, rLA, rJA, rVI, rQI, rVA, rQA, upd_at,  rAI, rLI, rJI, nI_add, pk_sub, kc_0, kc_1, kc_2, kc_3, kc_4, kc_5, reduceIte, Nat.reduceEqDiff, Nat.add_zero, rI_hold, rI_hold, rL_hold, ha, hkd, hvl]; done)) ?_
  refine Bod.ialdN j rfl (by omega) (by omega) dc_310_56 (mk_68 _) ?_
  refine Bod.eqI (nI vl) (by first | assumption | rfl | exact congrArg nI (by omega) | (simp (disch := omega) only [rI, rIe, rA, rIA, rLA, rJA, rVI, rQI, rVA, rQA, upd_at,  rAI, rLI, rJI, nI_add, pk_sub, kc_0, kc_1, kc_2, kc_3, kc_4, kc_5, reduceIte, Nat.reduceEqDiff, Nat.add_zero, rI_hold, rI_hold, rL_hold, ha, hkd, hvl]; done)) ?_
  refine Bod.sip 15677 (by decide) dc_310_57 ?_
  refine Bod.icF dc_310_60 rfl (k2_eq_F (k_ne vl 15677 rfl rfl (by omega) (by omega) (by omega))) ?_
  refine Bod.aldnG dc_310_63 (by repeat (first | exact h0 | exact sm_get_p1 | exact sm_get_p2e | refine sm_get_p1m (by decide) (by decide) ?_ | refine sm_get_p1n (by decide) rfl ?_ | refine sm_get_p2n (by decide) (by decide) rfl ?_)) ?_
  refine Bod.get dc_310_64 fr_310_135 (mk_61 _) rfl ?_
  refine Bod.aldnG dc_310_67 (by repeat (first | exact h0 | exact sm_get_p1 | exact sm_get_p2e | refine sm_get_p1m (by decide) (by decide) ?_ | refine sm_get_p1n (by decide) rfl ?_ | refine sm_get_p2n (by decide) (by decide) rfl ?_)) ?_
  refine Bod.get dc_310_68 fr_310_190 (mk_61 _) rfl ?_
  refine Bod.eqI (nI j) (by first | assumption | rfl | exact congrArg nI (by omega) | (simp (disch := omega) only [rI, rIe, rA, rIA, rLA, rJA, rVI, rQI, rVA, rQA, upd_at,  rAI, rLI, rJI, nI_add, pk_sub, kc_0, kc_1, kc_2, kc_3, kc_4, kc_5, reduceIte, Nat.reduceEqDiff, Nat.add_zero, rI_hold, rI_hold, rL_hold, ha, hkd, hvl]; done)) ?_
  refine Bod.ialdN j rfl (by omega) (by omega) dc_310_71 (mk_68 _) ?_
  refine Bod.eqI (nI vl) (by first | assumption | rfl | exact congrArg nI (by omega) | (simp (disch := omega) only [rI, rIe, rA, rIA, rLA, rJA, rVI, rQI, rVA, rQA, upd_at,  rAI, rLI, rJI, nI_add, pk_sub, kc_0, kc_1, kc_2, kc_3, kc_4, kc_5, reduceIte, Nat.reduceEqDiff, Nat.add_zero, rI_hold, rI_hold, rL_hold, ha, hkd, hvl]; done)) ?_
  refine Bod.sip 8509 (by decide) dc_310_72 ?_
  refine Bod.icF dc_310_75 rfl (k2_eq_F (k_ne vl 8509 rfl rfl (by omega) (by omega) (by omega))) ?_
  refine Bod.aldnG dc_310_78 (by repeat (first | exact h0 | exact sm_get_p1 | exact sm_get_p2e | refine sm_get_p1m (by decide) (by decide) ?_ | refine sm_get_p1n (by decide) rfl ?_ | refine sm_get_p2n (by decide) (by decide) rfl ?_)) ?_
  refine Bod.get dc_310_79 fr_310_135 (mk_61 _) rfl ?_
  refine Bod.aldnG dc_310_82 (by repeat (first | exact h0 | exact sm_get_p1 | exact sm_get_p2e | refine sm_get_p1m (by decide) (by decide) ?_ | refine sm_get_p1n (by decide) rfl ?_ | refine sm_get_p2n (by decide) (by decide) rfl ?_)) ?_
  refine Bod.get dc_310_83 fr_310_190 (mk_61 _) rfl ?_
  refine Bod.eqI (nI j) (by first | assumption | rfl | exact congrArg nI (by omega) | (simp (disch := omega) only [rI, rIe, rA, rIA, rLA, rJA, rVI, rQI, rVA, rQA, upd_at,  rAI, rLI, rJI, nI_add, pk_sub, kc_0, kc_1, kc_2, kc_3, kc_4, kc_5, reduceIte, Nat.reduceEqDiff, Nat.add_zero, rI_hold, rI_hold, rL_hold, ha, hkd, hvl]; done)) ?_
  refine Bod.ialdN j rfl (by omega) (by omega) dc_310_86 (mk_68 _) ?_
  refine Bod.eqI (nI vl) (by first | assumption | rfl | exact congrArg nI (by omega) | (simp (disch := omega) only [rI, rIe, rA, rIA, rLA, rJA, rVI, rQI, rVA, rQA, upd_at,  rAI, rLI, rJI, nI_add, pk_sub, kc_0, kc_1, kc_2, kc_3, kc_4, kc_5, reduceIte, Nat.reduceEqDiff, Nat.add_zero, rI_hold, rI_hold, rL_hold, ha, hkd, hvl]; done)) ?_
  refine Bod.sip 15421 (by decide) dc_310_87 ?_
  refine Bod.icF dc_310_90 rfl (k2_eq_F (k_ne vl 15421 rfl rfl (by omega) (by omega) (by omega))) ?_
  refine Bod.aldnG dc_310_93 (by repeat (first | exact h0 | exact sm_get_p1 | exact sm_get_p2e | refine sm_get_p1m (by decide) (by decide) ?_ | refine sm_get_p1n (by decide) rfl ?_ | refine sm_get_p2n (by decide) (by decide) rfl ?_)) ?_
  refine Bod.get dc_310_94 fr_310_135 (mk_61 _) rfl ?_
  refine Bod.aldnG dc_310_97 (by repeat (first | exact h0 | exact sm_get_p1 | exact sm_get_p2e | refine sm_get_p1m (by decide) (by decide) ?_ | refine sm_get_p1n (by decide) rfl ?_ | refine sm_get_p2n (by decide) (by decide) rfl ?_)) ?_
  refine Bod.get dc_310_98 fr_310_190 (mk_61 _) rfl ?_
  refine Bod.eqI (nI j) (by first | assumption | rfl | exact congrArg nI (by omega) | (simp (disch := omega) only [rI, rIe, rA, rIA, rLA, rJA, rVI, rQI, rVA, rQA, upd_at,  rAI, rLI, rJI, nI_add, pk_sub, kc_0, kc_1, kc_2, kc_3, kc_4, kc_5, reduceIte, Nat.reduceEqDiff, Nat.add_zero, rI_hold, rI_hold, rL_hold, ha, hkd, hvl]; done)) ?_
  refine Bod.ialdN j rfl (by omega) (by omega) dc_310_101 (mk_68 _) ?_
  refine Bod.eqI (nI vl) (by first | assumption | rfl | exact congrArg nI (by omega) | (simp (disch := omega) only [rI, rIe, rA, rIA, rLA, rJA, rVI, rQI, rVA, rQA, upd_at,  rAI, rLI, rJI, nI_add, pk_sub, kc_0, kc_1, kc_2, kc_3, kc_4, kc_5, reduceIte, Nat.reduceEqDiff, Nat.add_zero, rI_hold, rI_hold, rL_hold, ha, hkd, hvl]; done)) ?_
  refine Bod.sip 15933 (by decide) dc_310_102 ?_
  refine Bod.icF dc_310_105 rfl (k2_eq_F (k_ne vl 15933 rfl rfl (by omega) (by omega) (by omega))) ?_
  refine Bod.aldnG dc_310_108 (by repeat (first | exact h0 | exact sm_get_p1 | exact sm_get_p2e | refine sm_get_p1m (by decide) (by decide) ?_ | refine sm_get_p1n (by decide) rfl ?_ | refine sm_get_p2n (by decide) (by decide) rfl ?_)) ?_
  refine Bod.get dc_310_109 fr_310_135 (mk_61 _) rfl ?_
  refine Bod.aldnG dc_310_112 (by repeat (first | exact h0 | exact sm_get_p1 | exact sm_get_p2e | refine sm_get_p1m (by decide) (by decide) ?_ | refine sm_get_p1n (by decide) rfl ?_ | refine sm_get_p2n (by decide) (by decide) rfl ?_)) ?_
  refine Bod.get dc_310_113 fr_310_190 (mk_61 _) rfl ?_
  refine Bod.eqI (nI j) (by first | assumption | rfl | exact congrArg nI (by omega) | (simp (disch := omega) only [rI, rIe, rA, rIA, rLA, rJA, rVI, rQI, rVA, rQA, upd_at,  rAI, rLI, rJI, nI_add, pk_sub, kc_0, kc_1, kc_2, kc_3, kc_4, kc_5, reduceIte, Nat.reduceEqDiff, Nat.add_zero, rI_hold, rI_hold, rL_hold, ha, hkd, hvl]; done)) ?_
  refine Bod.ialdN j rfl (by omega) (by omega) dc_310_116 (mk_68 _) ?_
  refine Bod.eqI (nI vl) (by first | assumption | rfl | exact congrArg nI (by omega) | (simp (disch := omega) only [rI, rIe, rA, rIA, rLA, rJA, rVI, rQI, rVA, rQA, upd_at,  rAI, rLI, rJI, nI_add, pk_sub, kc_0, kc_1, kc_2, kc_3, kc_4, kc_5, reduceIte, Nat.reduceEqDiff, Nat.add_zero, rI_hold, rI_hold, rL_hold, ha, hkd, hvl]; done)) ?_
  refine Bod.bip 60 (by decide) dc_310_117 ?_
  refine Bod.icF dc_310_119 rfl (k2_eq_F (k_ne vl 60 rfl rfl (by omega) (by omega) (by omega))) ?_
  refine Bod.aldnG dc_310_122 (by repeat (first | exact h0 | exact sm_get_p1 | exact sm_get_p2e | refine sm_get_p1m (by decide) (by decide) ?_ | refine sm_get_p1n (by decide) rfl ?_ | refine sm_get_p2n (by decide) (by decide) rfl ?_)) ?_
  refine Bod.get dc_310_123 fr_310_135 (mk_61 _) rfl ?_
  refine Bod.aldnG dc_310_126 (by repeat (first | exact h0 | exact sm_get_p1 | exact sm_get_p2e | refine sm_get_p1m (by decide) (by decide) ?_ | refine sm_get_p1n (by decide) rfl ?_ | refine sm_get_p2n (by decide) (by decide) rfl ?_)) ?_
  refine Bod.get dc_310_127 fr_310_190 (mk_61 _) rfl ?_
  refine Bod.eqI (nI j) (by first | assumption | rfl | exact congrArg nI (by omega) | (simp (disch := omega) only [rI, rIe, rA, rIA, rLA, rJA, rVI, rQI, rVA, rQA, upd_at,  rAI, rLI, rJI, nI_add, pk_sub, kc_0, kc_1, kc_2, kc_3, kc_4, kc_5, reduceIte, Nat.reduceEqDiff, Nat.add_zero, rI_hold, rI_hold, rL_hold, ha, hkd, hvl]; done)) ?_
  refine Bod.ialdN j rfl (by omega) (by omega) dc_310_130 (mk_68 _) ?_
  refine Bod.eqI (nI vl) (by first | assumption | rfl | exact congrArg nI (by omega) | (simp (disch := omega) only [rI, rIe, rA, rIA, rLA, rJA, rVI, rQI, rVA, rQA, upd_at,  rAI, rLI, rJI, nI_add, pk_sub, kc_0, kc_1, kc_2, kc_3, kc_4, kc_5, reduceIte, Nat.reduceEqDiff, Nat.add_zero, rI_hold, rI_hold, rL_hold, ha, hkd, hvl]; done)) ?_
  refine Bod.bip 62 (by decide) dc_310_131 ?_
  refine Bod.icT dc_310_133 rfl (k2_ne_T (k_ne vl 62 rfl rfl (by omega) (by omega) (by omega))) ?_
  refine Bod.ic 0 (by decide) dc_310_148 ?_
  refine Bod.istn dc_310_149 (by rw [ml_310]; exact Nat.le_of_ble_eq_true rfl) ?_
  exact hB _ (by repeat (first | exact h0 | exact sm_get_p1 | exact sm_get_p2e | refine sm_get_p1m (by decide) (by decide) ?_ | refine sm_get_p1n (by decide) rfl ?_ | refine sm_get_p2n (by decide) (by decide) rfl ?_)) (by repeat (first | exact h1 | exact sm_get_p1 | exact sm_get_p2e | refine sm_get_p1m (by decide) (by decide) ?_ | refine sm_get_p1n (by decide) rfl ?_ | refine sm_get_p2n (by decide) (by decide) rfl ?_)) (by repeat (first | exact sm_get_p1 | exact sm_get_p2e | refine sm_get_p1m (by decide) (by decide) ?_ | refine sm_get_p1n (by decide) rfl ?_ | refine sm_get_p2n (by decide) (by decide) rfl ?_ | rfl))
theorem re_cmp_0 {d : Nat} {S : cS} {lv : sm_L} {dp : Nat} {sg : Nat}  (h0 : sm_get lv 0 = some (.ref 61)) (h1 : sm_get lv 1 = some (.int (nI dp))) (h2 : sm_get lv 2 = some (.int (nI sg))) (hdp : dp ≤ 12) (hsM : sg < 100000) (hs0 : sg = 0) : Bod (d + 8) 310 150 lv [] S (some (.int (1))) (S) := by
  refine Bod.ildnG dc_310_150 (by repeat (first | exact h2 | exact sm_get_p1 | exact sm_get_p2e | refine sm_get_p1m (by decide) (by decide) ?_ | refine sm_get_p1n (by decide) rfl ?_ | refine sm_get_p2n (by decide) (by decide) rfl ?_)) ?_
  refine Bod.ifF dc_310_151 rfl (k1_ne_F (k_eq sg 0 rfl rfl (by omega))) ?_
  refine Bod.ic 1 (by decide) dc_310_154 ?_
  exact Bod.retZ dc_310_155 rt_310 (Or.inr rfl)
theorem re_cmp_bad {d : Nat} {S : cS} {lv : sm_L} {dp : Nat} {sg : Nat} {j : Nat} {S1 : cS} (h0 : sm_get lv 0 = some (.ref 61)) (h1 : sm_get lv 1 = some (.int (nI dp))) (h2 : sm_get lv 2 = some (.int (nI sg))) (hdp : dp ≤ 12) (hsM : sg < 100000) (hs0 : sg ≠ 0) (ha : sI S 6115 = nI j) (hj : j < 6002) (hD0 : Ans (d + 8) 311 [.ref 61, .int (nI dp)] (wI 6115 (nI (j + 1)) S) (some (.int (nI 0))) S1) : Bod (d + 8) 310 150 lv [] S (some (.int (0))) (S1) := by
  refine Bod.ildnG dc_310_150 (by repeat (first | exact h2 | exact sm_get_p1 | exact sm_get_p2e | refine sm_get_p1m (by decide) (by decide) ?_ | refine sm_get_p1n (by decide) rfl ?_ | refine sm_get_p2n (by decide) (by decide) rfl ?_)) ?_
  refine Bod.ifT dc_310_151 rfl (k1_ne_T (k_ne sg 0 rfl rfl (by omega) (by omega) (by omega))) ?_
  refine Bod.aldnG dc_310_156 (by repeat (first | exact h0 | exact sm_get_p1 | exact sm_get_p2e | refine sm_get_p1m (by decide) (by decide) ?_ | refine sm_get_p1n (by decide) rfl ?_ | refine sm_get_p2n (by decide) (by decide) rfl ?_)) ?_
  refine Bod.go dc_310_157 rfl ?_
  refine Bod.get dc_310_158 fr_310_190 (mk_61 _) rfl ?_
  refine Bod.eqI (nI j) (by first | assumption | rfl | exact congrArg nI (by omega) | (simp (disch := omega) only [rI, rIe, rA, rIA, rLA, rJA, rVI, rQI, rVA, rQA, upd_at,  rAI, rLI, rJI, nI_add, pk_sub, kc_0, kc_1, kc_2, kc_3, kc_4, kc_5, reduceIte, Nat.reduceEqDiff, Nat.add_zero, rI_hold, rI_hold, rL_hold, ha]; done)) ?_
  refine Bod.ic 1 (by decide) dc_310_161 ?_
  refine Bod.addN (j + 1) (by omega) dc_310_162 ?_
  refine Bod.put dc_310_163 fr_310_190 (mk_61 _) (Nat.le_of_ble_eq_true rfl) pf_14_15 (st_6115 _ _) (mu_I _ _ _) ?_
  refine Bod.aldnG dc_310_166 (by repeat (first | exact h0 | exact sm_get_p1 | exact sm_get_p2e | refine sm_get_p1m (by decide) (by decide) ?_ | refine sm_get_p1n (by decide) rfl ?_ | refine sm_get_p2n (by decide) (by decide) rfl ?_)) ?_
  refine Bod.ildnG dc_310_167 (by repeat (first | exact h1 | exact sm_get_p1 | exact sm_get_p2e | refine sm_get_p1m (by decide) (by decide) ?_ | refine sm_get_p1n (by decide) rfl ?_ | refine sm_get_p2n (by decide) (by decide) rfl ?_)) ?_
  refine Bod.virt (r := []) dc_310_168 kr_310_406 ⟨Or.inl rfl, ow_311, cl_14⟩ (by rw [np_311]; rfl) (by rw [np_311]; rfl) (ob_of (mk_61 _)) (Nat.le_of_ble_eq_true rfl) (hD0  ) ?_
  show Bod _ _ _ _ [_] _ _ _
  refine Bod.ifF dc_310_171 rfl (k1_ne_F (k_eq 0 0 rfl rfl (by omega))) ?_
  refine Bod.ic 0 (by decide) dc_310_174 ?_
  exact Bod.retZ dc_310_175 rt_310 (Or.inl rfl)
theorem re_cmp_T {d : Nat} {S : cS} {lv : sm_L} {dp : Nat} {sg : Nat} {j : Nat} {S2 : cS} {S1 : cS} (h0 : sm_get lv 0 = some (.ref 61)) (h1 : sm_get lv 1 = some (.int (nI dp))) (h2 : sm_get lv 2 = some (.int (nI sg))) (hdp : dp ≤ 12) (hsM : sg < 100000) (hs0 : sg ≠ 0) (ha : sI S 6115 = nI j) (hj : j < 6002) (hD1 : Ans (d + 8) 311 [.ref 61, .int (nI dp)] (wI 6115 (nI (j + 1)) S) (some (.int (nI 1))) S1) (hP : Ans (d + 8) 302 [.ref 61, .int (nI 8), .int (nI sg)] S1 none S2) : Bod (d + 8) 310 150 lv [] S (some (.int (1))) (wI 6131 (nI 0) S2) := by
  refine Bod.ildnG dc_310_150 (by repeat (first | exact h2 | exact sm_get_p1 | exact sm_get_p2e | refine sm_get_p1m (by decide) (by decide) ?_ | refine sm_get_p1n (by decide) rfl ?_ | refine sm_get_p2n (by decide) (by decide) rfl ?_)) ?_
  refine Bod.ifT dc_310_151 rfl (k1_ne_T (k_ne sg 0 rfl rfl (by omega) (by omega) (by omega))) ?_
  refine Bod.aldnG dc_310_156 (by repeat (first | exact h0 | exact sm_get_p1 | exact sm_get_p2e | refine sm_get_p1m (by decide) (by decide) ?_ | refine sm_get_p1n (by decide) rfl ?_ | refine sm_get_p2n (by decide) (by decide) rfl ?_)) ?_
  refine Bod.go dc_310_157 rfl ?_
  refine Bod.get dc_310_158 fr_310_190 (mk_61 _) rfl ?_
  refine Bod.eqI (nI j) (by first | assumption | rfl | exact congrArg nI (by omega) | (simp (disch := omega) only [rI, rIe, rA, rIA, rLA, rJA, rVI, rQI, rVA, rQA, upd_at,  rAI, rLI, rJI, nI_add, pk_sub, kc_0, kc_1, kc_2, kc_3, kc_4, kc_5, reduceIte, Nat.reduceEqDiff, Nat.add_zero, rI_hold, rI_hold, rL_hold, ha]; done)) ?_
  refine Bod.ic 1 (by decide) dc_310_161 ?_
  refine Bod.addN (j + 1) (by omega) dc_310_162 ?_
  refine Bod.put dc_310_163 fr_310_190 (mk_61 _) (Nat.le_of_ble_eq_true rfl) pf_14_15 (st_6115 _ _) (mu_I _ _ _) ?_
  refine Bod.aldnG dc_310_166 (by repeat (first | exact h0 | exact sm_get_p1 | exact sm_get_p2e | refine sm_get_p1m (by decide) (by decide) ?_ | refine sm_get_p1n (by decide) rfl ?_ | refine sm_get_p2n (by decide) (by decide) rfl ?_)) ?_
  refine Bod.ildnG dc_310_167 (by repeat (first | exact h1 | exact sm_get_p1 | exact sm_get_p2e | refine sm_get_p1m (by decide) (by decide) ?_ | refine sm_get_p1n (by decide) rfl ?_ | refine sm_get_p2n (by decide) (by decide) rfl ?_)) ?_
  refine Bod.virt (r := []) dc_310_168 kr_310_406 ⟨Or.inl rfl, ow_311, cl_14⟩ (by rw [np_311]; rfl) (by rw [np_311]; rfl) (ob_of (mk_61 _)) (Nat.le_of_ble_eq_true rfl) (hD1  ) ?_
  show Bod _ _ _ _ [_] _ _ _
  refine Bod.ifT dc_310_171 rfl (k1_ne_T (k_ne 1 0 rfl rfl (by omega) (by omega) (by omega))) ?_
  refine Bod.aldnG dc_310_176 (by repeat (first | exact h0 | exact sm_get_p1 | exact sm_get_p2e | refine sm_get_p1m (by decide) (by decide) ?_ | refine sm_get_p1n (by decide) rfl ?_ | refine sm_get_p2n (by decide) (by decide) rfl ?_)) ?_
  refine Bod.bip 8 (by decide) dc_310_177 ?_
  refine Bod.ildnG dc_310_179 (by repeat (first | exact h2 | exact sm_get_p1 | exact sm_get_p2e | refine sm_get_p1m (by decide) (by decide) ?_ | refine sm_get_p1n (by decide) rfl ?_ | refine sm_get_p2n (by decide) (by decide) rfl ?_)) ?_
  refine Bod.virt (r := []) dc_310_180 kr_310_216 ⟨Or.inl rfl, ow_302, cl_14⟩ (by rw [np_302]; rfl) (by rw [np_302]; rfl) (ob_of (mk_61 _)) (Nat.le_of_ble_eq_true rfl) (hP  ) ?_
  show Bod _ _ _ _ [] _ _ _
  refine Bod.aldnG dc_310_183 (by repeat (first | exact h0 | exact sm_get_p1 | exact sm_get_p2e | refine sm_get_p1m (by decide) (by decide) ?_ | refine sm_get_p1n (by decide) rfl ?_ | refine sm_get_p2n (by decide) (by decide) rfl ?_)) ?_
  refine Bod.ic 0 (by decide) dc_310_184 ?_
  refine Bod.put dc_310_185 fr_310_397 (mk_61 _) (Nat.le_of_ble_eq_true rfl) pf_14_31 (st_6131 _ _) (mu_I _ _ _) ?_
  refine Bod.ic 1 (by decide) dc_310_188 ?_
  exact Bod.retZ dc_310_189 rt_310 (Or.inr rfl)
theorem rl5_deep {d : Nat} {S : cS} {dp : Nat} {en : Nat} {mo : Nat} {pr : Nat} {S1 : cS} (hdp : dp ≤ 12) (hen : en < 20000) (hmo : mo ≤ 40) (hpr : pr ≤ 1) (hd12 : dp = 12) (hB : Ans (d + 8) 299 [.ref 61] S (some (.int (nI 0))) S1) : Ans (d + 9) 324 [.ref 61, .int (nI dp), .int (nI en), .int (nI mo), .int (nI pr)] S (some (.int (Int32.ofInt (-1)))) (S1) := by
  refine Ans.of (by rw [ml_324]; exact Nat.le_of_ble_eq_true rfl) ?_
  refine Bod.go dc_324_0 rfl ?_
  refine Bod.bip 12 (by decide) dc_324_1 ?_
  refine Bod.icF dc_324_3 rfl (k2_ne_F (k_eq dp 12 rfl rfl (by omega))) ?_
  refine Bod.go dc_324_6 rfl ?_
  refine Bod.virt (r := []) dc_324_7 kr_324_202 ⟨Or.inl rfl, ow_299, cl_14⟩ (by rw [np_299]; rfl) (by rw [np_299]; rfl) (ob_of (mk_61 _)) (Nat.le_of_ble_eq_true rfl) (hB  ) ?_
  show Bod _ _ _ _ [_] _ _ _
  refine Bod.go dc_324_10 rfl ?_
  refine Bod.go dc_324_11 rfl ?_
  exact Bod.retI dc_324_12 rt_324
theorem rl5_go {d : Nat} {S Sf : cS} {v : Option Value} {dp : Nat} {en : Nat} {mo : Nat} {pr : Nat} {j : Nat} (hdp : dp ≤ 12) (hen : en < 20000) (hmo : mo ≤ 40) (hpr : pr ≤ 1) (hd12 : dp < 12) (ha : sI S 6115 = nI j) (hj : j < 6002) (hB : ∀ lv1 : sm_L, sm_get lv1 0 = some (.ref 61) → sm_get lv1 1 = some (.int (nI dp)) → sm_get lv1 2 = some (.int (nI en)) → sm_get lv1 3 = some (.int (nI mo)) → sm_get lv1 4 = some (.int (nI pr)) → sm_get lv1 5 = some (.int (nI 0)) → Bod (d + 8) 324 26 lv1 [] (wI 6115 (nI (j + 1)) S) v Sf) : Ans (d + 9) 324 [.ref 61, .int (nI dp), .int (nI en), .int (nI mo), .int (nI pr)] S v Sf := by
  refine Ans.of (by rw [ml_324]; exact Nat.le_of_ble_eq_true rfl) ?_
  refine Bod.go dc_324_0 rfl ?_
  refine Bod.bip 12 (by decide) dc_324_1 ?_
  refine Bod.icT dc_324_3 rfl (k2_ne_T (k_ne dp 12 rfl rfl (by omega) (by omega) (by omega))) ?_
  refine Bod.go dc_324_13 rfl ?_
  refine Bod.go dc_324_14 rfl ?_
  refine Bod.get dc_324_15 fr_324_190 (mk_61 _) rfl ?_
  refine Bod.eqI (nI j) (by first | assumption | rfl | exact congrArg nI (by omega) | (simp (disch := omega) only [rI, rIe, rA, rIA, rLA, rJA, rVI, rQI, rVA, rQA, upd_at,  rAI, rLI, rJI, nI_add, pk_sub, kc_0, kc_1, kc_2, kc_3, kc_4, kc_5, reduceIte, Nat.reduceEqDiff, Nat.add_zero, rI_hold, rI_hold, rL_hold, ha]; done)) ?_
  refine Bod.ic 1 (by decide) dc_324_18 ?_
  refine Bod.addN (j + 1) (by omega) dc_324_19 ?_
  refine Bod.put dc_324_20 fr_324_190 (mk_61 _) (Nat.le_of_ble_eq_true rfl) pf_14_15 (st_6115 _ _) (mu_I _ _ _) ?_
  refine Bod.ic 0 (by decide) dc_324_23 ?_
  refine Bod.ist dc_324_24 (by rw [ml_324]; exact Nat.le_of_ble_eq_true rfl) ?_
  exact hB _ (by repeat (first | exact sm_get_p1 | exact sm_get_p2e | refine sm_get_p1m (by decide) (by decide) ?_ | refine sm_get_p1n (by decide) rfl ?_ | refine sm_get_p2n (by decide) (by decide) rfl ?_ | rfl)) (by repeat (first | exact sm_get_p1 | exact sm_get_p2e | refine sm_get_p1m (by decide) (by decide) ?_ | refine sm_get_p1n (by decide) rfl ?_ | refine sm_get_p2n (by decide) (by decide) rfl ?_ | rfl)) (by repeat (first | exact sm_get_p1 | exact sm_get_p2e | refine sm_get_p1m (by decide) (by decide) ?_ | refine sm_get_p1n (by decide) rfl ?_ | refine sm_get_p2n (by decide) (by decide) rfl ?_ | rfl)) (by repeat (first | exact sm_get_p1 | exact sm_get_p2e | refine sm_get_p1m (by decide) (by decide) ?_ | refine sm_get_p1n (by decide) rfl ?_ | refine sm_get_p2n (by decide) (by decide) rfl ?_ | rfl)) (by repeat (first | exact sm_get_p1 | exact sm_get_p2e | refine sm_get_p1m (by decide) (by decide) ?_ | refine sm_get_p1n (by decide) rfl ?_ | refine sm_get_p2n (by decide) (by decide) rfl ?_ | rfl)) (by repeat (first | exact sm_get_p1 | exact sm_get_p2e | refine sm_get_p1m (by decide) (by decide) ?_ | refine sm_get_p1n (by decide) rfl ?_ | refine sm_get_p2n (by decide) (by decide) rfl ?_ | rfl))
theorem rl5_e0 {d : Nat} {S Sf : cS} {lv : sm_L} {v : Option Value} {dp : Nat} {en : Nat} {mo : Nat} {pr : Nat} {c : Nat}  (h0 : sm_get lv 0 = some (.ref 61)) (h1 : sm_get lv 1 = some (.int (nI dp))) (h2 : sm_get lv 2 = some (.int (nI en))) (h3 : sm_get lv 3 = some (.int (nI mo))) (h4 : sm_get lv 4 = some (.int (nI pr))) (h5 : sm_get lv 5 = some (.int (nI c))) (hdp : dp ≤ 12) (hen : en < 20000) (hmo : mo ≤ 40) (hpr : pr ≤ 1) (hcM : c ≤ 40) (hY : Ans (d + 8) 314 [.ref 61, .int (nI en)] S (some (.int (nI 1))) S) (hc0 : c = 0) (hB : ∀ lv1 : sm_L, sm_get lv1 0 = some (.ref 61) → sm_get lv1 1 = some (.int (nI dp)) → sm_get lv1 2 = some (.int (nI en)) → sm_get lv1 3 = some (.int (nI mo)) → sm_get lv1 4 = some (.int (nI pr)) → sm_get lv1 5 = some (.int (nI c)) → Bod (d + 8) 324 113 lv1 [] (S) v Sf) : Bod (d + 8) 324 26 lv [] S v Sf := by
  refine Bod.aldnG dc_324_26 (by repeat (first | exact h0 | exact sm_get_p1 | exact sm_get_p2e | refine sm_get_p1m (by decide) (by decide) ?_ | refine sm_get_p1n (by decide) rfl ?_ | refine sm_get_p2n (by decide) (by decide) rfl ?_)) ?_
  refine Bod.ildnG dc_324_27 (by repeat (first | exact h2 | exact sm_get_p1 | exact sm_get_p2e | refine sm_get_p1m (by decide) (by decide) ?_ | refine sm_get_p1n (by decide) rfl ?_ | refine sm_get_p2n (by decide) (by decide) rfl ?_)) ?_
  refine Bod.virt (r := []) dc_324_28 kr_324_199 ⟨Or.inl rfl, ow_314, cl_14⟩ (by rw [np_314]; rfl) (by rw [np_314]; rfl) (ob_of (mk_61 _)) (Nat.le_of_ble_eq_true rfl) (hY  ) ?_
  show Bod _ _ _ _ [_] _ _ _
  refine Bod.ifF dc_324_31 rfl (k1_eq_F (k_ne 1 0 rfl rfl (by omega) (by omega) (by omega))) ?_
  refine Bod.ildG dc_324_34 (by repeat (first | exact h5 | exact sm_get_p1 | exact sm_get_p2e | refine sm_get_p1m (by decide) (by decide) ?_ | refine sm_get_p1n (by decide) rfl ?_ | refine sm_get_p2n (by decide) (by decide) rfl ?_)) ?_
  refine Bod.ifT dc_324_36 rfl (k1_le_T (k_eq c 0 (by first | assumption | rfl | exact congrArg nI (by omega) | (simp (disch := omega) only [rI, rIe, rA, rIA, rLA, rJA, rVI, rQI, rVA, rQA, upd_at,  rAI, rLI, rJI, nI_add, pk_sub, kc_0, kc_1, kc_2, kc_3, kc_4, kc_5, reduceIte, Nat.reduceEqDiff, Nat.add_zero, rI_hold, rI_hold, rL_hold]; done)) rfl (by omega))) ?_
  exact hB _ (by repeat (first | exact h0 | exact sm_get_p1 | exact sm_get_p2e | refine sm_get_p1m (by decide) (by decide) ?_ | refine sm_get_p1n (by decide) rfl ?_ | refine sm_get_p2n (by decide) (by decide) rfl ?_)) (by repeat (first | exact h1 | exact sm_get_p1 | exact sm_get_p2e | refine sm_get_p1m (by decide) (by decide) ?_ | refine sm_get_p1n (by decide) rfl ?_ | refine sm_get_p2n (by decide) (by decide) rfl ?_)) (by repeat (first | exact h2 | exact sm_get_p1 | exact sm_get_p2e | refine sm_get_p1m (by decide) (by decide) ?_ | refine sm_get_p1n (by decide) rfl ?_ | refine sm_get_p2n (by decide) (by decide) rfl ?_)) (by repeat (first | exact h3 | exact sm_get_p1 | exact sm_get_p2e | refine sm_get_p1m (by decide) (by decide) ?_ | refine sm_get_p1n (by decide) rfl ?_ | refine sm_get_p2n (by decide) (by decide) rfl ?_)) (by repeat (first | exact h4 | exact sm_get_p1 | exact sm_get_p2e | refine sm_get_p1m (by decide) (by decide) ?_ | refine sm_get_p1n (by decide) rfl ?_ | refine sm_get_p2n (by decide) (by decide) rfl ?_)) (by repeat (first | exact h5 | exact sm_get_p1 | exact sm_get_p2e | refine sm_get_p1m (by decide) (by decide) ?_ | refine sm_get_p1n (by decide) rfl ?_ | refine sm_get_p2n (by decide) (by decide) rfl ?_))
theorem rl5_e1 {d : Nat} {S Sf : cS} {lv : sm_L} {v : Option Value} {dp : Nat} {en : Nat} {mo : Nat} {pr : Nat} {c : Nat}  (h0 : sm_get lv 0 = some (.ref 61)) (h1 : sm_get lv 1 = some (.int (nI dp))) (h2 : sm_get lv 2 = some (.int (nI en))) (h3 : sm_get lv 3 = some (.int (nI mo))) (h4 : sm_get lv 4 = some (.int (nI pr))) (h5 : sm_get lv 5 = some (.int (nI c))) (hdp : dp ≤ 12) (hen : en < 20000) (hmo : mo ≤ 40) (hpr : pr ≤ 1) (hcM : c ≤ 40) (hY : Ans (d + 8) 314 [.ref 61, .int (nI en)] S (some (.int (nI 1))) S) (hc0 : 0 < c) (hB : ∀ lv1 : sm_L, sm_get lv1 0 = some (.ref 61) → sm_get lv1 1 = some (.int (nI dp)) → sm_get lv1 2 = some (.int (nI en)) → sm_get lv1 3 = some (.int (nI mo)) → sm_get lv1 4 = some (.int (nI pr)) → sm_get lv1 5 = some (.int (nI c)) → Bod (d + 8) 324 39 lv1 [] (S) v Sf) : Bod (d + 8) 324 26 lv [] S v Sf := by
  refine Bod.aldnG dc_324_26 (by repeat (first | exact h0 | exact sm_get_p1 | exact sm_get_p2e | refine sm_get_p1m (by decide) (by decide) ?_ | refine sm_get_p1n (by decide) rfl ?_ | refine sm_get_p2n (by decide) (by decide) rfl ?_)) ?_
  refine Bod.ildnG dc_324_27 (by repeat (first | exact h2 | exact sm_get_p1 | exact sm_get_p2e | refine sm_get_p1m (by decide) (by decide) ?_ | refine sm_get_p1n (by decide) rfl ?_ | refine sm_get_p2n (by decide) (by decide) rfl ?_)) ?_
  refine Bod.virt (r := []) dc_324_28 kr_324_199 ⟨Or.inl rfl, ow_314, cl_14⟩ (by rw [np_314]; rfl) (by rw [np_314]; rfl) (ob_of (mk_61 _)) (Nat.le_of_ble_eq_true rfl) (hY  ) ?_
  show Bod _ _ _ _ [_] _ _ _
  refine Bod.ifF dc_324_31 rfl (k1_eq_F (k_ne 1 0 rfl rfl (by omega) (by omega) (by omega))) ?_
  refine Bod.ildG dc_324_34 (by repeat (first | exact h5 | exact sm_get_p1 | exact sm_get_p2e | refine sm_get_p1m (by decide) (by decide) ?_ | refine sm_get_p1n (by decide) rfl ?_ | refine sm_get_p2n (by decide) (by decide) rfl ?_)) ?_
  refine Bod.ifF dc_324_36 rfl (k1_le_F c rfl (by omega) (by omega)) ?_
  exact hB _ (by repeat (first | exact h0 | exact sm_get_p1 | exact sm_get_p2e | refine sm_get_p1m (by decide) (by decide) ?_ | refine sm_get_p1n (by decide) rfl ?_ | refine sm_get_p2n (by decide) (by decide) rfl ?_)) (by repeat (first | exact h1 | exact sm_get_p1 | exact sm_get_p2e | refine sm_get_p1m (by decide) (by decide) ?_ | refine sm_get_p1n (by decide) rfl ?_ | refine sm_get_p2n (by decide) (by decide) rfl ?_)) (by repeat (first | exact h2 | exact sm_get_p1 | exact sm_get_p2e | refine sm_get_p1m (by decide) (by decide) ?_ | refine sm_get_p1n (by decide) rfl ?_ | refine sm_get_p2n (by decide) (by decide) rfl ?_)) (by repeat (first | exact h3 | exact sm_get_p1 | exact sm_get_p2e | refine sm_get_p1m (by decide) (by decide) ?_ | refine sm_get_p1n (by decide) rfl ?_ | refine sm_get_p2n (by decide) (by decide) rfl ?_)) (by repeat (first | exact h4 | exact sm_get_p1 | exact sm_get_p2e | refine sm_get_p1m (by decide) (by decide) ?_ | refine sm_get_p1n (by decide) rfl ?_ | refine sm_get_p2n (by decide) (by decide) rfl ?_)) (by repeat (first | exact h5 | exact sm_get_p1 | exact sm_get_p2e | refine sm_get_p1m (by decide) (by decide) ?_ | refine sm_get_p1n (by decide) rfl ?_ | refine sm_get_p2n (by decide) (by decide) rfl ?_))
theorem rl5_e2 {d : Nat} {S Sf : cS} {lv : sm_L} {v : Option Value} {dp : Nat} {en : Nat} {mo : Nat} {pr : Nat} {c : Nat}  (h0 : sm_get lv 0 = some (.ref 61)) (h1 : sm_get lv 1 = some (.int (nI dp))) (h2 : sm_get lv 2 = some (.int (nI en))) (h3 : sm_get lv 3 = some (.int (nI mo))) (h4 : sm_get lv 4 = some (.int (nI pr))) (h5 : sm_get lv 5 = some (.int (nI c))) (hdp : dp ≤ 12) (hen : en < 20000) (hmo : mo ≤ 40) (hpr : pr ≤ 1) (hcM : c ≤ 40) (hN : Ans (d + 8) 314 [.ref 61, .int (nI en)] S (some (.int (nI 0))) S) (hB : ∀ lv1 : sm_L, sm_get lv1 0 = some (.ref 61) → sm_get lv1 1 = some (.int (nI dp)) → sm_get lv1 2 = some (.int (nI en)) → sm_get lv1 3 = some (.int (nI mo)) → sm_get lv1 4 = some (.int (nI pr)) → sm_get lv1 5 = some (.int (nI c)) → Bod (d + 8) 324 39 lv1 [] (S) v Sf) : Bod (d + 8) 324 26 lv [] S v Sf := by
  refine Bod.aldnG dc_324_26 (by repeat (first | exact h0 | exact sm_get_p1 | exact sm_get_p2e | refine sm_get_p1m (by decide) (by decide) ?_ | refine sm_get_p1n (by decide) rfl ?_ | refine sm_get_p2n (by decide) (by decide) rfl ?_)) ?_
  refine Bod.ildnG dc_324_27 (by repeat (first | exact h2 | exact sm_get_p1 | exact sm_get_p2e | refine sm_get_p1m (by decide) (by decide) ?_ | refine sm_get_p1n (by decide) rfl ?_ | refine sm_get_p2n (by decide) (by decide) rfl ?_)) ?_
  refine Bod.virt (r := []) dc_324_28 kr_324_199 ⟨Or.inl rfl, ow_314, cl_14⟩ (by rw [np_314]; rfl) (by rw [np_314]; rfl) (ob_of (mk_61 _)) (Nat.le_of_ble_eq_true rfl) (hN  ) ?_
  show Bod _ _ _ _ [_] _ _ _
  refine Bod.ifT dc_324_31 rfl (k1_eq_T (k_eq 0 0 rfl rfl (by omega))) ?_
  exact hB _ (by repeat (first | exact h0 | exact sm_get_p1 | exact sm_get_p2e | refine sm_get_p1m (by decide) (by decide) ?_ | refine sm_get_p1n (by decide) rfl ?_ | refine sm_get_p2n (by decide) (by decide) rfl ?_)) (by repeat (first | exact h1 | exact sm_get_p1 | exact sm_get_p2e | refine sm_get_p1m (by decide) (by decide) ?_ | refine sm_get_p1n (by decide) rfl ?_ | refine sm_get_p2n (by decide) (by decide) rfl ?_)) (by repeat (first | exact h2 | exact sm_get_p1 | exact sm_get_p2e | refine sm_get_p1m (by decide) (by decide) ?_ | refine sm_get_p1n (by decide) rfl ?_ | refine sm_get_p2n (by decide) (by decide) rfl ?_)) (by repeat (first | exact h3 | exact sm_get_p1 | exact sm_get_p2e | refine sm_get_p1m (by decide) (by decide) ?_ | refine sm_get_p1n (by decide) rfl ?_ | refine sm_get_p2n (by decide) (by decide) rfl ?_)) (by repeat (first | exact h4 | exact sm_get_p1 | exact sm_get_p2e | refine sm_get_p1m (by decide) (by decide) ?_ | refine sm_get_p1n (by decide) rfl ?_ | refine sm_get_p2n (by decide) (by decide) rfl ?_)) (by repeat (first | exact h5 | exact sm_get_p1 | exact sm_get_p2e | refine sm_get_p1m (by decide) (by decide) ?_ | refine sm_get_p1n (by decide) rfl ?_ | refine sm_get_p2n (by decide) (by decide) rfl ?_))
theorem rl5_many {d : Nat} {S : cS} {lv : sm_L} {dp : Nat} {en : Nat} {mo : Nat} {pr : Nat} {c : Nat} {S1 : cS} (h0 : sm_get lv 0 = some (.ref 61)) (h1 : sm_get lv 1 = some (.int (nI dp))) (h2 : sm_get lv 2 = some (.int (nI en))) (h3 : sm_get lv 3 = some (.int (nI mo))) (h4 : sm_get lv 4 = some (.int (nI pr))) (h5 : sm_get lv 5 = some (.int (nI c))) (hdp : dp ≤ 12) (hen : en < 20000) (hmo : mo ≤ 40) (hpr : pr ≤ 1) (hcM : c ≤ 40) (hcm : c = mo) (hB : Ans (d + 8) 299 [.ref 61] S (some (.int (nI 0))) S1) : Bod (d + 8) 324 39 lv [] S (some (.int (Int32.ofInt (-1)))) (S1) := by
  refine Bod.ildG dc_324_39 (by repeat (first | exact h5 | exact sm_get_p1 | exact sm_get_p2e | refine sm_get_p1m (by decide) (by decide) ?_ | refine sm_get_p1n (by decide) rfl ?_ | refine sm_get_p2n (by decide) (by decide) rfl ?_)) ?_
  refine Bod.ildnG dc_324_41 (by repeat (first | exact h3 | exact sm_get_p1 | exact sm_get_p2e | refine sm_get_p1m (by decide) (by decide) ?_ | refine sm_get_p1n (by decide) rfl ?_ | refine sm_get_p2n (by decide) (by decide) rfl ?_)) ?_
  refine Bod.icF dc_324_42 rfl (k2_ne_F (k_eq c mo rfl rfl (by omega))) ?_
  refine Bod.aldnG dc_324_45 (by repeat (first | exact h0 | exact sm_get_p1 | exact sm_get_p2e | refine sm_get_p1m (by decide) (by decide) ?_ | refine sm_get_p1n (by decide) rfl ?_ | refine sm_get_p2n (by decide) (by decide) rfl ?_)) ?_
  refine Bod.virt (r := []) dc_324_46 kr_324_202 ⟨Or.inl rfl, ow_299, cl_14⟩ (by rw [np_299]; rfl) (by rw [np_299]; rfl) (ob_of (mk_61 _)) (Nat.le_of_ble_eq_true rfl) (hB  ) ?_
  show Bod _ _ _ _ [_] _ _ _
  refine Bod.go dc_324_49 rfl ?_
  refine Bod.go dc_324_50 rfl ?_
  exact Bod.retI dc_324_51 rt_324
theorem rl5_v0 {d : Nat} {S : cS} {lv : sm_L} {dp : Nat} {en : Nat} {mo : Nat} {pr : Nat} {c : Nat} {S1 : cS} (h0 : sm_get lv 0 = some (.ref 61)) (h1 : sm_get lv 1 = some (.int (nI dp))) (h2 : sm_get lv 2 = some (.int (nI en))) (h3 : sm_get lv 3 = some (.int (nI mo))) (h4 : sm_get lv 4 = some (.int (nI pr))) (h5 : sm_get lv 5 = some (.int (nI c))) (hdp : dp ≤ 12) (hen : en < 20000) (hmo : mo ≤ 40) (hpr : pr ≤ 1) (hcM : c ≤ 40) (hcm : c ≠ mo) (hd12 : dp < 12) (hE0 : Ans (d + 8) 306 [.ref 61, .int (nI (dp + 1))] S (some (.int (nI 0))) S1) : Bod (d + 8) 324 39 lv [] S (some (.int (Int32.ofInt (-1)))) (S1) := by
  refine Bod.ildG dc_324_39 (by repeat (first | exact h5 | exact sm_get_p1 | exact sm_get_p2e | refine sm_get_p1m (by decide) (by decide) ?_ | refine sm_get_p1n (by decide) rfl ?_ | refine sm_get_p2n (by decide) (by decide) rfl ?_)) ?_
  refine Bod.ildnG dc_324_41 (by repeat (first | exact h3 | exact sm_get_p1 | exact sm_get_p2e | refine sm_get_p1m (by decide) (by decide) ?_ | refine sm_get_p1n (by decide) rfl ?_ | refine sm_get_p2n (by decide) (by decide) rfl ?_)) ?_
  refine Bod.icT dc_324_42 rfl (k2_ne_T (k_ne c mo rfl rfl (by omega) (by omega) (by omega))) ?_
  refine Bod.aldnG dc_324_52 (by repeat (first | exact h0 | exact sm_get_p1 | exact sm_get_p2e | refine sm_get_p1m (by decide) (by decide) ?_ | refine sm_get_p1n (by decide) rfl ?_ | refine sm_get_p2n (by decide) (by decide) rfl ?_)) ?_
  refine Bod.ildnG dc_324_53 (by repeat (first | exact h1 | exact sm_get_p1 | exact sm_get_p2e | refine sm_get_p1m (by decide) (by decide) ?_ | refine sm_get_p1n (by decide) rfl ?_ | refine sm_get_p2n (by decide) (by decide) rfl ?_)) ?_
  refine Bod.ic 1 (by decide) dc_324_54 ?_
  refine Bod.addN (dp + 1) (by omega) dc_324_55 ?_
  refine Bod.virt (r := []) dc_324_56 kr_324_302 ⟨Or.inl rfl, ow_306, cl_14⟩ (by rw [np_306]; rfl) (by rw [np_306]; rfl) (ob_of (mk_61 _)) (Nat.le_of_ble_eq_true rfl) (hE0  ) ?_
  show Bod _ _ _ _ [_] _ _ _
  refine Bod.ifT dc_324_59 rfl (k1_eq_T (k_eq 0 0 rfl rfl (by omega))) ?_
  refine Bod.go dc_324_86 rfl ?_
  exact Bod.retI dc_324_87 rt_324
theorem rl5_v1 {d : Nat} {S Sf : cS} {lv : sm_L} {v : Option Value} {dp : Nat} {en : Nat} {mo : Nat} {pr : Nat} {c : Nat} {S1 : cS} (h0 : sm_get lv 0 = some (.ref 61)) (h1 : sm_get lv 1 = some (.int (nI dp))) (h2 : sm_get lv 2 = some (.int (nI en))) (h3 : sm_get lv 3 = some (.int (nI mo))) (h4 : sm_get lv 4 = some (.int (nI pr))) (h5 : sm_get lv 5 = some (.int (nI c))) (hdp : dp ≤ 12) (hen : en < 20000) (hmo : mo ≤ 40) (hpr : pr ≤ 1) (hcM : c ≤ 40) (hcm : c ≠ mo) (hd12 : dp < 12) (hp : pr = 0) (hE1 : Ans (d + 8) 306 [.ref 61, .int (nI (dp + 1))] S (some (.int (nI 1))) S1) (hB : ∀ lv1 : sm_L, sm_get lv1 0 = some (.ref 61) → sm_get lv1 1 = some (.int (nI dp)) → sm_get lv1 2 = some (.int (nI en)) → sm_get lv1 3 = some (.int (nI mo)) → sm_get lv1 4 = some (.int (nI pr)) → sm_get lv1 5 = some (.int (nI c)) → Bod (d + 8) 324 88 lv1 [] (S1) v Sf) : Bod (d + 8) 324 39 lv [] S v Sf := by
  refine Bod.ildG dc_324_39 (by repeat (first | exact h5 | exact sm_get_p1 | exact sm_get_p2e | refine sm_get_p1m (by decide) (by decide) ?_ | refine sm_get_p1n (by decide) rfl ?_ | refine sm_get_p2n (by decide) (by decide) rfl ?_)) ?_
  refine Bod.ildnG dc_324_41 (by repeat (first | exact h3 | exact sm_get_p1 | exact sm_get_p2e | refine sm_get_p1m (by decide) (by decide) ?_ | refine sm_get_p1n (by decide) rfl ?_ | refine sm_get_p2n (by decide) (by decide) rfl ?_)) ?_
  refine Bod.icT dc_324_42 rfl (k2_ne_T (k_ne c mo rfl rfl (by omega) (by omega) (by omega))) ?_
  refine Bod.aldnG dc_324_52 (by repeat (first | exact h0 | exact sm_get_p1 | exact sm_get_p2e | refine sm_get_p1m (by decide) (by decide) ?_ | refine sm_get_p1n (by decide) rfl ?_ | refine sm_get_p2n (by decide) (by decide) rfl ?_)) ?_
  refine Bod.ildnG dc_324_53 (by repeat (first | exact h1 | exact sm_get_p1 | exact sm_get_p2e | refine sm_get_p1m (by decide) (by decide) ?_ | refine sm_get_p1n (by decide) rfl ?_ | refine sm_get_p2n (by decide) (by decide) rfl ?_)) ?_
  refine Bod.ic 1 (by decide) dc_324_54 ?_
  refine Bod.addN (dp + 1) (by omega) dc_324_55 ?_
  refine Bod.virt (r := []) dc_324_56 kr_324_302 ⟨Or.inl rfl, ow_306, cl_14⟩ (by rw [np_306]; rfl) (by rw [np_306]; rfl) (ob_of (mk_61 _)) (Nat.le_of_ble_eq_true rfl) (hE1  ) ?_
  show Bod _ _ _ _ [_] _ _ _
  refine Bod.ifF dc_324_59 rfl (k1_eq_F (k_ne 1 0 rfl rfl (by omega) (by omega) (by omega))) ?_
  refine Bod.ildG dc_324_62 (by repeat (first | exact h4 | exact sm_get_p1 | exact sm_get_p2e | refine sm_get_p1m (by decide) (by decide) ?_ | refine sm_get_p1n (by decide) rfl ?_ | refine sm_get_p2n (by decide) (by decide) rfl ?_)) ?_
  refine Bod.ifT dc_324_64 rfl (k1_eq_T (k_eq pr 0 rfl rfl (by omega))) ?_
  exact hB _ (by repeat (first | exact h0 | exact sm_get_p1 | exact sm_get_p2e | refine sm_get_p1m (by decide) (by decide) ?_ | refine sm_get_p1n (by decide) rfl ?_ | refine sm_get_p2n (by decide) (by decide) rfl ?_)) (by repeat (first | exact h1 | exact sm_get_p1 | exact sm_get_p2e | refine sm_get_p1m (by decide) (by decide) ?_ | refine sm_get_p1n (by decide) rfl ?_ | refine sm_get_p2n (by decide) (by decide) rfl ?_)) (by repeat (first | exact h2 | exact sm_get_p1 | exact sm_get_p2e | refine sm_get_p1m (by decide) (by decide) ?_ | refine sm_get_p1n (by decide) rfl ?_ | refine sm_get_p2n (by decide) (by decide) rfl ?_)) (by repeat (first | exact h3 | exact sm_get_p1 | exact sm_get_p2e | refine sm_get_p1m (by decide) (by decide) ?_ | refine sm_get_p1n (by decide) rfl ?_ | refine sm_get_p2n (by decide) (by decide) rfl ?_)) (by repeat (first | exact h4 | exact sm_get_p1 | exact sm_get_p2e | refine sm_get_p1m (by decide) (by decide) ?_ | refine sm_get_p1n (by decide) rfl ?_ | refine sm_get_p2n (by decide) (by decide) rfl ?_)) (by repeat (first | exact h5 | exact sm_get_p1 | exact sm_get_p2e | refine sm_get_p1m (by decide) (by decide) ?_ | refine sm_get_p1n (by decide) rfl ?_ | refine sm_get_p2n (by decide) (by decide) rfl ?_))
theorem rl5_p0 {d : Nat} {S : cS} {lv : sm_L} {dp : Nat} {en : Nat} {mo : Nat} {pr : Nat} {c : Nat} {S1 : cS} {S2 : cS} (h0 : sm_get lv 0 = some (.ref 61)) (h1 : sm_get lv 1 = some (.int (nI dp))) (h2 : sm_get lv 2 = some (.int (nI en))) (h3 : sm_get lv 3 = some (.int (nI mo))) (h4 : sm_get lv 4 = some (.int (nI pr))) (h5 : sm_get lv 5 = some (.int (nI c))) (hdp : dp ≤ 12) (hen : en < 20000) (hmo : mo ≤ 40) (hpr : pr ≤ 1) (hcM : c ≤ 40) (hcm : c ≠ mo) (hd12 : dp < 12) (hp : pr = 1) (hE1 : Ans (d + 8) 306 [.ref 61, .int (nI (dp + 1))] S (some (.int (nI 1))) S1) (hT0 : Ans (d + 8) 323 [.ref 61, .int (nI 58)] S1 (some (.int (nI 0))) S2) : Bod (d + 8) 324 39 lv [] S (some (.int (Int32.ofInt (-1)))) (S2) := by
  refine Bod.ildG dc_324_39 (by repeat (first | exact h5 | exact sm_get_p1 | exact sm_get_p2e | refine sm_get_p1m (by decide) (by decide) ?_ | refine sm_get_p1n (by decide) rfl ?_ | refine sm_get_p2n (by decide) (by decide) rfl ?_)) ?_
  refine Bod.ildnG dc_324_41 (by repeat (first | exact h3 | exact sm_get_p1 | exact sm_get_p2e | refine sm_get_p1m (by decide) (by decide) ?_ | refine sm_get_p1n (by decide) rfl ?_ | refine sm_get_p2n (by decide) (by decide) rfl ?_)) ?_
  refine Bod.icT dc_324_42 rfl (k2_ne_T (k_ne c mo rfl rfl (by omega) (by omega) (by omega))) ?_
  refine Bod.aldnG dc_324_52 (by repeat (first | exact h0 | exact sm_get_p1 | exact sm_get_p2e | refine sm_get_p1m (by decide) (by decide) ?_ | refine sm_get_p1n (by decide) rfl ?_ | refine sm_get_p2n (by decide) (by decide) rfl ?_)) ?_
  refine Bod.ildnG dc_324_53 (by repeat (first | exact h1 | exact sm_get_p1 | exact sm_get_p2e | refine sm_get_p1m (by decide) (by decide) ?_ | refine sm_get_p1n (by decide) rfl ?_ | refine sm_get_p2n (by decide) (by decide) rfl ?_)) ?_
  refine Bod.ic 1 (by decide) dc_324_54 ?_
  refine Bod.addN (dp + 1) (by omega) dc_324_55 ?_
  refine Bod.virt (r := []) dc_324_56 kr_324_302 ⟨Or.inl rfl, ow_306, cl_14⟩ (by rw [np_306]; rfl) (by rw [np_306]; rfl) (ob_of (mk_61 _)) (Nat.le_of_ble_eq_true rfl) (hE1  ) ?_
  show Bod _ _ _ _ [_] _ _ _
  refine Bod.ifF dc_324_59 rfl (k1_eq_F (k_ne 1 0 rfl rfl (by omega) (by omega) (by omega))) ?_
  refine Bod.ildG dc_324_62 (by repeat (first | exact h4 | exact sm_get_p1 | exact sm_get_p2e | refine sm_get_p1m (by decide) (by decide) ?_ | refine sm_get_p1n (by decide) rfl ?_ | refine sm_get_p2n (by decide) (by decide) rfl ?_)) ?_
  refine Bod.ifF dc_324_64 rfl (k1_eq_F (k_ne pr 0 rfl rfl (by omega) (by omega) (by omega))) ?_
  refine Bod.aldnG dc_324_67 (by repeat (first | exact h0 | exact sm_get_p1 | exact sm_get_p2e | refine sm_get_p1m (by decide) (by decide) ?_ | refine sm_get_p1n (by decide) rfl ?_ | refine sm_get_p2n (by decide) (by decide) rfl ?_)) ?_
  refine Bod.bip 58 (by decide) dc_324_68 ?_
  refine Bod.virt (r := []) dc_324_70 kr_324_270 ⟨Or.inl rfl, ow_323, cl_14⟩ (by rw [np_323]; rfl) (by rw [np_323]; rfl) (ob_of (mk_61 _)) (Nat.le_of_ble_eq_true rfl) (hT0  ) ?_
  show Bod _ _ _ _ [_] _ _ _
  refine Bod.ifT dc_324_73 rfl (k1_eq_T (k_eq 0 0 rfl rfl (by omega))) ?_
  refine Bod.go dc_324_86 rfl ?_
  exact Bod.retI dc_324_87 rt_324
theorem rl5_p1 {d : Nat} {S : cS} {lv : sm_L} {dp : Nat} {en : Nat} {mo : Nat} {pr : Nat} {c : Nat} {S1 : cS} {S2 : cS} {S3 : cS} (h0 : sm_get lv 0 = some (.ref 61)) (h1 : sm_get lv 1 = some (.int (nI dp))) (h2 : sm_get lv 2 = some (.int (nI en))) (h3 : sm_get lv 3 = some (.int (nI mo))) (h4 : sm_get lv 4 = some (.int (nI pr))) (h5 : sm_get lv 5 = some (.int (nI c))) (hdp : dp ≤ 12) (hen : en < 20000) (hmo : mo ≤ 40) (hpr : pr ≤ 1) (hcM : c ≤ 40) (hcm : c ≠ mo) (hd12 : dp < 12) (hp : pr = 1) (hE1 : Ans (d + 8) 306 [.ref 61, .int (nI (dp + 1))] S (some (.int (nI 1))) S1) (hT1 : Ans (d + 8) 323 [.ref 61, .int (nI 58)] S1 (some (.int (nI 1))) S2) (hF0 : Ans (d + 8) 306 [.ref 61, .int (nI (dp + 1))] S2 (some (.int (nI 0))) S3) : Bod (d + 8) 324 39 lv [] S (some (.int (Int32.ofInt (-1)))) (S3) := by
  refine Bod.ildG dc_324_39 (by repeat (first | exact h5 | exact sm_get_p1 | exact sm_get_p2e | refine sm_get_p1m (by decide) (by decide) ?_ | refine sm_get_p1n (by decide) rfl ?_ | refine sm_get_p2n (by decide) (by decide) rfl ?_)) ?_
  refine Bod.ildnG dc_324_41 (by repeat (first | exact h3 | exact sm_get_p1 | exact sm_get_p2e | refine sm_get_p1m (by decide) (by decide) ?_ | refine sm_get_p1n (by decide) rfl ?_ | refine sm_get_p2n (by decide) (by decide) rfl ?_)) ?_
  refine Bod.icT dc_324_42 rfl (k2_ne_T (k_ne c mo rfl rfl (by omega) (by omega) (by omega))) ?_
  refine Bod.aldnG dc_324_52 (by repeat (first | exact h0 | exact sm_get_p1 | exact sm_get_p2e | refine sm_get_p1m (by decide) (by decide) ?_ | refine sm_get_p1n (by decide) rfl ?_ | refine sm_get_p2n (by decide) (by decide) rfl ?_)) ?_
  refine Bod.ildnG dc_324_53 (by repeat (first | exact h1 | exact sm_get_p1 | exact sm_get_p2e | refine sm_get_p1m (by decide) (by decide) ?_ | refine sm_get_p1n (by decide) rfl ?_ | refine sm_get_p2n (by decide) (by decide) rfl ?_)) ?_
  refine Bod.ic 1 (by decide) dc_324_54 ?_
  refine Bod.addN (dp + 1) (by omega) dc_324_55 ?_
  refine Bod.virt (r := []) dc_324_56 kr_324_302 ⟨Or.inl rfl, ow_306, cl_14⟩ (by rw [np_306]; rfl) (by rw [np_306]; rfl) (ob_of (mk_61 _)) (Nat.le_of_ble_eq_true rfl) (hE1  ) ?_
  show Bod _ _ _ _ [_] _ _ _
  refine Bod.ifF dc_324_59 rfl (k1_eq_F (k_ne 1 0 rfl rfl (by omega) (by omega) (by omega))) ?_
  refine Bod.ildG dc_324_62 (by repeat (first | exact h4 | exact sm_get_p1 | exact sm_get_p2e | refine sm_get_p1m (by decide) (by decide) ?_ | refine sm_get_p1n (by decide) rfl ?_ | refine sm_get_p2n (by decide) (by decide) rfl ?_)) ?_
  refine Bod.ifF dc_324_64 rfl (k1_eq_F (k_ne pr 0 rfl rfl (by omega) (by omega) (by omega))) ?_
  refine Bod.aldnG dc_324_67 (by repeat (first | exact h0 | exact sm_get_p1 | exact sm_get_p2e | refine sm_get_p1m (by decide) (by decide) ?_ | refine sm_get_p1n (by decide) rfl ?_ | refine sm_get_p2n (by decide) (by decide) rfl ?_)) ?_
  refine Bod.bip 58 (by decide) dc_324_68 ?_
  refine Bod.virt (r := []) dc_324_70 kr_324_270 ⟨Or.inl rfl, ow_323, cl_14⟩ (by rw [np_323]; rfl) (by rw [np_323]; rfl) (ob_of (mk_61 _)) (Nat.le_of_ble_eq_true rfl) (hT1  ) ?_
  show Bod _ _ _ _ [_] _ _ _
  refine Bod.ifF dc_324_73 rfl (k1_eq_F (k_ne 1 0 rfl rfl (by omega) (by omega) (by omega))) ?_
  refine Bod.aldnG dc_324_76 (by repeat (first | exact h0 | exact sm_get_p1 | exact sm_get_p2e | refine sm_get_p1m (by decide) (by decide) ?_ | refine sm_get_p1n (by decide) rfl ?_ | refine sm_get_p2n (by decide) (by decide) rfl ?_)) ?_
  refine Bod.ildnG dc_324_77 (by repeat (first | exact h1 | exact sm_get_p1 | exact sm_get_p2e | refine sm_get_p1m (by decide) (by decide) ?_ | refine sm_get_p1n (by decide) rfl ?_ | refine sm_get_p2n (by decide) (by decide) rfl ?_)) ?_
  refine Bod.ic 1 (by decide) dc_324_78 ?_
  refine Bod.addN (dp + 1) (by omega) dc_324_79 ?_
  refine Bod.virt (r := []) dc_324_80 kr_324_302 ⟨Or.inl rfl, ow_306, cl_14⟩ (by rw [np_306]; rfl) (by rw [np_306]; rfl) (ob_of (mk_61 _)) (Nat.le_of_ble_eq_true rfl) (hF0  ) ?_
  show Bod _ _ _ _ [_] _ _ _
  refine Bod.ifF dc_324_83 rfl (k1_ne_F (k_eq 0 0 rfl rfl (by omega))) ?_
  refine Bod.go dc_324_86 rfl ?_
  exact Bod.retI dc_324_87 rt_324
theorem rl5_p2 {d : Nat} {S Sf : cS} {lv : sm_L} {v : Option Value} {dp : Nat} {en : Nat} {mo : Nat} {pr : Nat} {c : Nat} {S1 : cS} {S2 : cS} {S3 : cS} (h0 : sm_get lv 0 = some (.ref 61)) (h1 : sm_get lv 1 = some (.int (nI dp))) (h2 : sm_get lv 2 = some (.int (nI en))) (h3 : sm_get lv 3 = some (.int (nI mo))) (h4 : sm_get lv 4 = some (.int (nI pr))) (h5 : sm_get lv 5 = some (.int (nI c))) (hdp : dp ≤ 12) (hen : en < 20000) (hmo : mo ≤ 40) (hpr : pr ≤ 1) (hcM : c ≤ 40) (hcm : c ≠ mo) (hd12 : dp < 12) (hp : pr = 1) (hE1 : Ans (d + 8) 306 [.ref 61, .int (nI (dp + 1))] S (some (.int (nI 1))) S1) (hT1 : Ans (d + 8) 323 [.ref 61, .int (nI 58)] S1 (some (.int (nI 1))) S2) (hF1 : Ans (d + 8) 306 [.ref 61, .int (nI (dp + 1))] S2 (some (.int (nI 1))) S3) (hB : ∀ lv1 : sm_L, sm_get lv1 0 = some (.ref 61) → sm_get lv1 1 = some (.int (nI dp)) → sm_get lv1 2 = some (.int (nI en)) → sm_get lv1 3 = some (.int (nI mo)) → sm_get lv1 4 = some (.int (nI pr)) → sm_get lv1 5 = some (.int (nI c)) → Bod (d + 8) 324 88 lv1 [] (S3) v Sf) : Bod (d + 8) 324 39 lv [] S v Sf := by
  refine Bod.ildG dc_324_39 (by repeat (first | exact h5 | exact sm_get_p1 | exact sm_get_p2e | refine sm_get_p1m (by decide) (by decide) ?_ | refine sm_get_p1n (by decide) rfl ?_ | refine sm_get_p2n (by decide) (by decide) rfl ?_)) ?_
  refine Bod.ildnG dc_324_41 (by repeat (first | exact h3 | exact sm_get_p1 | exact sm_get_p2e | refine sm_get_p1m (by decide) (by decide) ?_ | refine sm_get_p1n (by decide) rfl ?_ | refine sm_get_p2n (by decide) (by decide) rfl ?_)) ?_
  refine Bod.icT dc_324_42 rfl (k2_ne_T (k_ne c mo rfl rfl (by omega) (by omega) (by omega))) ?_
  refine Bod.aldnG dc_324_52 (by repeat (first | exact h0 | exact sm_get_p1 | exact sm_get_p2e | refine sm_get_p1m (by decide) (by decide) ?_ | refine sm_get_p1n (by decide) rfl ?_ | refine sm_get_p2n (by decide) (by decide) rfl ?_)) ?_
  refine Bod.ildnG dc_324_53 (by repeat (first | exact h1 | exact sm_get_p1 | exact sm_get_p2e | refine sm_get_p1m (by decide) (by decide) ?_ | refine sm_get_p1n (by decide) rfl ?_ | refine sm_get_p2n (by decide) (by decide) rfl ?_)) ?_
  refine Bod.ic 1 (by decide) dc_324_54 ?_
  refine Bod.addN (dp + 1) (by omega) dc_324_55 ?_
  refine Bod.virt (r := []) dc_324_56 kr_324_302 ⟨Or.inl rfl, ow_306, cl_14⟩ (by rw [np_306]; rfl) (by rw [np_306]; rfl) (ob_of (mk_61 _)) (Nat.le_of_ble_eq_true rfl) (hE1  ) ?_
  show Bod _ _ _ _ [_] _ _ _
  refine Bod.ifF dc_324_59 rfl (k1_eq_F (k_ne 1 0 rfl rfl (by omega) (by omega) (by omega))) ?_
  refine Bod.ildG dc_324_62 (by repeat (first | exact h4 | exact sm_get_p1 | exact sm_get_p2e | refine sm_get_p1m (by decide) (by decide) ?_ | refine sm_get_p1n (by decide) rfl ?_ | refine sm_get_p2n (by decide) (by decide) rfl ?_)) ?_
  refine Bod.ifF dc_324_64 rfl (k1_eq_F (k_ne pr 0 rfl rfl (by omega) (by omega) (by omega))) ?_
  refine Bod.aldnG dc_324_67 (by repeat (first | exact h0 | exact sm_get_p1 | exact sm_get_p2e | refine sm_get_p1m (by decide) (by decide) ?_ | refine sm_get_p1n (by decide) rfl ?_ | refine sm_get_p2n (by decide) (by decide) rfl ?_)) ?_
  refine Bod.bip 58 (by decide) dc_324_68 ?_
  refine Bod.virt (r := []) dc_324_70 kr_324_270 ⟨Or.inl rfl, ow_323, cl_14⟩ (by rw [np_323]; rfl) (by rw [np_323]; rfl) (ob_of (mk_61 _)) (Nat.le_of_ble_eq_true rfl) (hT1  ) ?_
  show Bod _ _ _ _ [_] _ _ _
  refine Bod.ifF dc_324_73 rfl (k1_eq_F (k_ne 1 0 rfl rfl (by omega) (by omega) (by omega))) ?_
  refine Bod.aldnG dc_324_76 (by repeat (first | exact h0 | exact sm_get_p1 | exact sm_get_p2e | refine sm_get_p1m (by decide) (by decide) ?_ | refine sm_get_p1n (by decide) rfl ?_ | refine sm_get_p2n (by decide) (by decide) rfl ?_)) ?_
  refine Bod.ildnG dc_324_77 (by repeat (first | exact h1 | exact sm_get_p1 | exact sm_get_p2e | refine sm_get_p1m (by decide) (by decide) ?_ | refine sm_get_p1n (by decide) rfl ?_ | refine sm_get_p2n (by decide) (by decide) rfl ?_)) ?_
  refine Bod.ic 1 (by decide) dc_324_78 ?_
  refine Bod.addN (dp + 1) (by omega) dc_324_79 ?_
  refine Bod.virt (r := []) dc_324_80 kr_324_302 ⟨Or.inl rfl, ow_306, cl_14⟩ (by rw [np_306]; rfl) (by rw [np_306]; rfl) (ob_of (mk_61 _)) (Nat.le_of_ble_eq_true rfl) (hF1  ) ?_
  show Bod _ _ _ _ [_] _ _ _
  refine Bod.ifT dc_324_83 rfl (k1_ne_T (k_ne 1 0 rfl rfl (by omega) (by omega) (by omega))) ?_
  exact hB _ (by repeat (first | exact h0 | exact sm_get_p1 | exact sm_get_p2e | refine sm_get_p1m (by decide) (by decide) ?_ | refine sm_get_p1n (by decide) rfl ?_ | refine sm_get_p2n (by decide) (by decide) rfl ?_)) (by repeat (first | exact h1 | exact sm_get_p1 | exact sm_get_p2e | refine sm_get_p1m (by decide) (by decide) ?_ | refine sm_get_p1n (by decide) rfl ?_ | refine sm_get_p2n (by decide) (by decide) rfl ?_)) (by repeat (first | exact h2 | exact sm_get_p1 | exact sm_get_p2e | refine sm_get_p1m (by decide) (by decide) ?_ | refine sm_get_p1n (by decide) rfl ?_ | refine sm_get_p2n (by decide) (by decide) rfl ?_)) (by repeat (first | exact h3 | exact sm_get_p1 | exact sm_get_p2e | refine sm_get_p1m (by decide) (by decide) ?_ | refine sm_get_p1n (by decide) rfl ?_ | refine sm_get_p2n (by decide) (by decide) rfl ?_)) (by repeat (first | exact h4 | exact sm_get_p1 | exact sm_get_p2e | refine sm_get_p1m (by decide) (by decide) ?_ | refine sm_get_p1n (by decide) rfl ?_ | refine sm_get_p2n (by decide) (by decide) rfl ?_)) (by repeat (first | exact h5 | exact sm_get_p1 | exact sm_get_p2e | refine sm_get_p1m (by decide) (by decide) ?_ | refine sm_get_p1n (by decide) rfl ?_ | refine sm_get_p2n (by decide) (by decide) rfl ?_))
theorem rl5_n1 {d : Nat} {S Sf : cS} {lv : sm_L} {v : Option Value} {dp : Nat} {en : Nat} {mo : Nat} {pr : Nat} {c : Nat}  (h0 : sm_get lv 0 = some (.ref 61)) (h1 : sm_get lv 1 = some (.int (nI dp))) (h2 : sm_get lv 2 = some (.int (nI en))) (h3 : sm_get lv 3 = some (.int (nI mo))) (h4 : sm_get lv 4 = some (.int (nI pr))) (h5 : sm_get lv 5 = some (.int (nI c))) (hdp : dp ≤ 12) (hen : en < 20000) (hmo : mo ≤ 40) (hpr : pr ≤ 1) (hcM : c ≤ 40) (hY : Ans (d + 8) 314 [.ref 61, .int (nI en)] S (some (.int (nI 1))) S) (hB : ∀ lv1 : sm_L, sm_get lv1 0 = some (.ref 61) → sm_get lv1 1 = some (.int (nI dp)) → sm_get lv1 2 = some (.int (nI en)) → sm_get lv1 3 = some (.int (nI mo)) → sm_get lv1 4 = some (.int (nI pr)) → sm_get lv1 5 = some (.int (nI (c + 1))) → Bod (d + 8) 324 113 lv1 [] (S) v Sf) : Bod (d + 8) 324 88 lv [] S v Sf := by
  refine Bod.incN (c + 1) (by rw [kc_1, nI_add]) dc_324_88 (by rw [ml_324]; exact Nat.le_of_ble_eq_true rfl) (by repeat (first | exact h5 | exact sm_get_p1 | exact sm_get_p2e | refine sm_get_p1m (by decide) (by decide) ?_ | refine sm_get_p1n (by decide) rfl ?_ | refine sm_get_p2n (by decide) (by decide) rfl ?_)) ?_
  refine Bod.aldnG dc_324_91 (by repeat (first | exact h0 | exact sm_get_p1 | exact sm_get_p2e | refine sm_get_p1m (by decide) (by decide) ?_ | refine sm_get_p1n (by decide) rfl ?_ | refine sm_get_p2n (by decide) (by decide) rfl ?_)) ?_
  refine Bod.ildnG dc_324_92 (by repeat (first | exact h2 | exact sm_get_p1 | exact sm_get_p2e | refine sm_get_p1m (by decide) (by decide) ?_ | refine sm_get_p1n (by decide) rfl ?_ | refine sm_get_p2n (by decide) (by decide) rfl ?_)) ?_
  refine Bod.virt (r := []) dc_324_93 kr_324_199 ⟨Or.inl rfl, ow_314, cl_14⟩ (by rw [np_314]; rfl) (by rw [np_314]; rfl) (ob_of (mk_61 _)) (Nat.le_of_ble_eq_true rfl) (hY  ) ?_
  show Bod _ _ _ _ [_] _ _ _
  refine Bod.ifF dc_324_96 rfl (k1_eq_F (k_ne 1 0 rfl rfl (by omega) (by omega) (by omega))) ?_
  refine Bod.go dc_324_99 rfl ?_
  exact hB _ (by repeat (first | exact h0 | exact sm_get_p1 | exact sm_get_p2e | refine sm_get_p1m (by decide) (by decide) ?_ | refine sm_get_p1n (by decide) rfl ?_ | refine sm_get_p2n (by decide) (by decide) rfl ?_)) (by repeat (first | exact h1 | exact sm_get_p1 | exact sm_get_p2e | refine sm_get_p1m (by decide) (by decide) ?_ | refine sm_get_p1n (by decide) rfl ?_ | refine sm_get_p2n (by decide) (by decide) rfl ?_)) (by repeat (first | exact h2 | exact sm_get_p1 | exact sm_get_p2e | refine sm_get_p1m (by decide) (by decide) ?_ | refine sm_get_p1n (by decide) rfl ?_ | refine sm_get_p2n (by decide) (by decide) rfl ?_)) (by repeat (first | exact h3 | exact sm_get_p1 | exact sm_get_p2e | refine sm_get_p1m (by decide) (by decide) ?_ | refine sm_get_p1n (by decide) rfl ?_ | refine sm_get_p2n (by decide) (by decide) rfl ?_)) (by repeat (first | exact h4 | exact sm_get_p1 | exact sm_get_p2e | refine sm_get_p1m (by decide) (by decide) ?_ | refine sm_get_p1n (by decide) rfl ?_ | refine sm_get_p2n (by decide) (by decide) rfl ?_)) (by repeat (first | exact h5 | exact sm_get_p1 | exact sm_get_p2e | refine sm_get_p1m (by decide) (by decide) ?_ | refine sm_get_p1n (by decide) rfl ?_ | refine sm_get_p2n (by decide) (by decide) rfl ?_))
theorem rl5_n2 {d : Nat} {S Sf : cS} {lv : sm_L} {v : Option Value} {dp : Nat} {en : Nat} {mo : Nat} {pr : Nat} {c : Nat} {S1 : cS} (h0 : sm_get lv 0 = some (.ref 61)) (h1 : sm_get lv 1 = some (.int (nI dp))) (h2 : sm_get lv 2 = some (.int (nI en))) (h3 : sm_get lv 3 = some (.int (nI mo))) (h4 : sm_get lv 4 = some (.int (nI pr))) (h5 : sm_get lv 5 = some (.int (nI c))) (hdp : dp ≤ 12) (hen : en < 20000) (hmo : mo ≤ 40) (hpr : pr ≤ 1) (hcM : c ≤ 40) (hN : Ans (d + 8) 314 [.ref 61, .int (nI en)] S (some (.int (nI 0))) S) (hK1 : Ans (d + 8) 323 [.ref 61, .int (nI 44)] S (some (.int (nI 1))) S1) (hB : ∀ lv1 : sm_L, sm_get lv1 0 = some (.ref 61) → sm_get lv1 1 = some (.int (nI dp)) → sm_get lv1 2 = some (.int (nI en)) → sm_get lv1 3 = some (.int (nI mo)) → sm_get lv1 4 = some (.int (nI pr)) → sm_get lv1 5 = some (.int (nI (c + 1))) → Bod (d + 8) 324 26 lv1 [] (S1) v Sf) : Bod (d + 8) 324 88 lv [] S v Sf := by
  refine Bod.incN (c + 1) (by rw [kc_1, nI_add]) dc_324_88 (by rw [ml_324]; exact Nat.le_of_ble_eq_true rfl) (by repeat (first | exact h5 | exact sm_get_p1 | exact sm_get_p2e | refine sm_get_p1m (by decide) (by decide) ?_ | refine sm_get_p1n (by decide) rfl ?_ | refine sm_get_p2n (by decide) (by decide) rfl ?_)) ?_
  refine Bod.aldnG dc_324_91 (by repeat (first | exact h0 | exact sm_get_p1 | exact sm_get_p2e | refine sm_get_p1m (by decide) (by decide) ?_ | refine sm_get_p1n (by decide) rfl ?_ | refine sm_get_p2n (by decide) (by decide) rfl ?_)) ?_
  refine Bod.ildnG dc_324_92 (by repeat (first | exact h2 | exact sm_get_p1 | exact sm_get_p2e | refine sm_get_p1m (by decide) (by decide) ?_ | refine sm_get_p1n (by decide) rfl ?_ | refine sm_get_p2n (by decide) (by decide) rfl ?_)) ?_
  refine Bod.virt (r := []) dc_324_93 kr_324_199 ⟨Or.inl rfl, ow_314, cl_14⟩ (by rw [np_314]; rfl) (by rw [np_314]; rfl) (ob_of (mk_61 _)) (Nat.le_of_ble_eq_true rfl) (hN  ) ?_
  show Bod _ _ _ _ [_] _ _ _
  refine Bod.ifT dc_324_96 rfl (k1_eq_T (k_eq 0 0 rfl rfl (by omega))) ?_
  refine Bod.aldnG dc_324_102 (by repeat (first | exact h0 | exact sm_get_p1 | exact sm_get_p2e | refine sm_get_p1m (by decide) (by decide) ?_ | refine sm_get_p1n (by decide) rfl ?_ | refine sm_get_p2n (by decide) (by decide) rfl ?_)) ?_
  refine Bod.bip 44 (by decide) dc_324_103 ?_
  refine Bod.virt (r := []) dc_324_105 kr_324_270 ⟨Or.inl rfl, ow_323, cl_14⟩ (by rw [np_323]; rfl) (by rw [np_323]; rfl) (ob_of (mk_61 _)) (Nat.le_of_ble_eq_true rfl) (hK1  ) ?_
  show Bod _ _ _ _ [_] _ _ _
  refine Bod.ifT dc_324_108 rfl (k1_ne_T (k_ne 1 0 rfl rfl (by omega) (by omega) (by omega))) ?_
  exact hB _ (by repeat (first | exact h0 | exact sm_get_p1 | exact sm_get_p2e | refine sm_get_p1m (by decide) (by decide) ?_ | refine sm_get_p1n (by decide) rfl ?_ | refine sm_get_p2n (by decide) (by decide) rfl ?_)) (by repeat (first | exact h1 | exact sm_get_p1 | exact sm_get_p2e | refine sm_get_p1m (by decide) (by decide) ?_ | refine sm_get_p1n (by decide) rfl ?_ | refine sm_get_p2n (by decide) (by decide) rfl ?_)) (by repeat (first | exact h2 | exact sm_get_p1 | exact sm_get_p2e | refine sm_get_p1m (by decide) (by decide) ?_ | refine sm_get_p1n (by decide) rfl ?_ | refine sm_get_p2n (by decide) (by decide) rfl ?_)) (by repeat (first | exact h3 | exact sm_get_p1 | exact sm_get_p2e | refine sm_get_p1m (by decide) (by decide) ?_ | refine sm_get_p1n (by decide) rfl ?_ | refine sm_get_p2n (by decide) (by decide) rfl ?_)) (by repeat (first | exact h4 | exact sm_get_p1 | exact sm_get_p2e | refine sm_get_p1m (by decide) (by decide) ?_ | refine sm_get_p1n (by decide) rfl ?_ | refine sm_get_p2n (by decide) (by decide) rfl ?_)) (by repeat (first | exact h5 | exact sm_get_p1 | exact sm_get_p2e | refine sm_get_p1m (by decide) (by decide) ?_ | refine sm_get_p1n (by decide) rfl ?_ | refine sm_get_p2n (by decide) (by decide) rfl ?_))
theorem rl5_n0 {d : Nat} {S : cS} {lv : sm_L} {dp : Nat} {en : Nat} {mo : Nat} {pr : Nat} {c : Nat} {S1 : cS} (h0 : sm_get lv 0 = some (.ref 61)) (h1 : sm_get lv 1 = some (.int (nI dp))) (h2 : sm_get lv 2 = some (.int (nI en))) (h3 : sm_get lv 3 = some (.int (nI mo))) (h4 : sm_get lv 4 = some (.int (nI pr))) (h5 : sm_get lv 5 = some (.int (nI c))) (hdp : dp ≤ 12) (hen : en < 20000) (hmo : mo ≤ 40) (hpr : pr ≤ 1) (hcM : c ≤ 40) (hN : Ans (d + 8) 314 [.ref 61, .int (nI en)] S (some (.int (nI 0))) S) (hK0 : Ans (d + 8) 323 [.ref 61, .int (nI 44)] S (some (.int (nI 0))) S1) : Bod (d + 8) 324 88 lv [] S (some (.int (Int32.ofInt (-1)))) (S1) := by
  refine Bod.incN (c + 1) (by rw [kc_1, nI_add]) dc_324_88 (by rw [ml_324]; exact Nat.le_of_ble_eq_true rfl) (by repeat (first | exact h5 | exact sm_get_p1 | exact sm_get_p2e | refine sm_get_p1m (by decide) (by decide) ?_ | refine sm_get_p1n (by decide) rfl ?_ | refine sm_get_p2n (by decide) (by decide) rfl ?_)) ?_
  refine Bod.aldnG dc_324_91 (by repeat (first | exact h0 | exact sm_get_p1 | exact sm_get_p2e | refine sm_get_p1m (by decide) (by decide) ?_ | refine sm_get_p1n (by decide) rfl ?_ | refine sm_get_p2n (by decide) (by decide) rfl ?_)) ?_
  refine Bod.ildnG dc_324_92 (by repeat (first | exact h2 | exact sm_get_p1 | exact sm_get_p2e | refine sm_get_p1m (by decide) (by decide) ?_ | refine sm_get_p1n (by decide) rfl ?_ | refine sm_get_p2n (by decide) (by decide) rfl ?_)) ?_
  refine Bod.virt (r := []) dc_324_93 kr_324_199 ⟨Or.inl rfl, ow_314, cl_14⟩ (by rw [np_314]; rfl) (by rw [np_314]; rfl) (ob_of (mk_61 _)) (Nat.le_of_ble_eq_true rfl) (hN  ) ?_
  show Bod _ _ _ _ [_] _ _ _
  refine Bod.ifT dc_324_96 rfl (k1_eq_T (k_eq 0 0 rfl rfl (by omega))) ?_
  refine Bod.aldnG dc_324_102 (by repeat (first | exact h0 | exact sm_get_p1 | exact sm_get_p2e | refine sm_get_p1m (by decide) (by decide) ?_ | refine sm_get_p1n (by decide) rfl ?_ | refine sm_get_p2n (by decide) (by decide) rfl ?_)) ?_
  refine Bod.bip 44 (by decide) dc_324_103 ?_
  refine Bod.virt (r := []) dc_324_105 kr_324_270 ⟨Or.inl rfl, ow_323, cl_14⟩ (by rw [np_323]; rfl) (by rw [np_323]; rfl) (ob_of (mk_61 _)) (Nat.le_of_ble_eq_true rfl) (hK0  ) ?_
  show Bod _ _ _ _ [_] _ _ _
  refine Bod.ifF dc_324_108 rfl (k1_ne_F (k_eq 0 0 rfl rfl (by omega))) ?_
  refine Bod.go dc_324_111 rfl ?_
  exact Bod.retI dc_324_112 rt_324
theorem rl5_end {d : Nat} {S : cS} {lv : sm_L} {dp : Nat} {en : Nat} {mo : Nat} {pr : Nat} {c : Nat} {j : Nat} (h0 : sm_get lv 0 = some (.ref 61)) (h1 : sm_get lv 1 = some (.int (nI dp))) (h2 : sm_get lv 2 = some (.int (nI en))) (h3 : sm_get lv 3 = some (.int (nI mo))) (h4 : sm_get lv 4 = some (.int (nI pr))) (h5 : sm_get lv 5 = some (.int (nI c))) (hdp : dp ≤ 12) (hen : en < 20000) (hmo : mo ≤ 40) (hpr : pr ≤ 1) (hcM : c ≤ 41) (ha : sI S 6115 = nI j) (hj : j < 6002) : Bod (d + 8) 324 113 lv [] S (some (.int (nI c))) (wI 6115 (nI (j + 1)) S) := by
  refine Bod.aldnG dc_324_113 (by repeat (first | exact h0 | exact sm_get_p1 | exact sm_get_p2e | refine sm_get_p1m (by decide) (by decide) ?_ | refine sm_get_p1n (by decide) rfl ?_ | refine sm_get_p2n (by decide) (by decide) rfl ?_)) ?_
  refine Bod.go dc_324_114 rfl ?_
  refine Bod.get dc_324_115 fr_324_190 (mk_61 _) rfl ?_
  refine Bod.eqI (nI j) (by first | assumption | rfl | exact congrArg nI (by omega) | (simp (disch := omega) only [rI, rIe, rA, rIA, rLA, rJA, rVI, rQI, rVA, rQA, upd_at,  rAI, rLI, rJI, nI_add, pk_sub, kc_0, kc_1, kc_2, kc_3, kc_4, kc_5, reduceIte, Nat.reduceEqDiff, Nat.add_zero, rI_hold, rI_hold, rL_hold, ha]; done)) ?_
  refine Bod.ic 1 (by decide) dc_324_118 ?_
  refine Bod.addN (j + 1) (by omega) dc_324_119 ?_
  refine Bod.put dc_324_120 fr_324_190 (mk_61 _) (Nat.le_of_ble_eq_true rfl) pf_14_15 (st_6115 _ _) (mu_I _ _ _) ?_
  refine Bod.ildG dc_324_123 (by repeat (first | exact h5 | exact sm_get_p1 | exact sm_get_p2e | refine sm_get_p1m (by decide) (by decide) ?_ | refine sm_get_p1n (by decide) rfl ?_ | refine sm_get_p2n (by decide) (by decide) rfl ?_)) ?_
  exact Bod.retI dc_324_125 rt_324
