/-! WAYS of the class's machine: every call is a hypothesis -/
theorem ml_126 : sm_ml 126 = 7 := by decide +kernel
theorem dc_126_0 : decode (sm_cc 126) 0 = .ok (.aload_n 0, 1) := by decide +kernel
theorem dc_126_1 : decode (sm_cc 126) 1 = .ok (.iload_n 1, 1) := by decide +kernel
theorem dc_126_2 : decode (sm_cc 126) 2 = .ok (.putfield 69, 3) := by decide +kernel
theorem fr_126_69 : sm_at mt_f (sm_ow 126) 69 = some (69, 4, 16, 0, 852) := by decide +kernel
theorem dc_126_5 : decode (sm_cc 126) 5 = .ok (.aload_n 0, 1) := by decide +kernel
theorem dc_126_6 : decode (sm_cc 126) 6 = .ok (.iload_n 2, 1) := by decide +kernel
theorem dc_126_7 : decode (sm_cc 126) 7 = .ok (.putfield 72, 3) := by decide +kernel
theorem fr_126_72 : sm_at mt_f (sm_ow 126) 72 = some (72, 4, 19, 0, 855) := by decide +kernel
theorem dc_126_10 : decode (sm_cc 126) 10 = .ok (.aload_n 0, 1) := by decide +kernel
theorem dc_126_11 : decode (sm_cc 126) 11 = .ok (.iconst 0, 1) := by decide +kernel
theorem dc_126_12 : decode (sm_cc 126) 12 = .ok (.putfield 75, 3) := by decide +kernel
theorem fr_126_75 : sm_at mt_f (sm_ow 126) 75 = some (75, 4, 14, 0, 850) := by decide +kernel
theorem dc_126_15 : decode (sm_cc 126) 15 = .ok (.aload_n 0, 1) := by decide +kernel
theorem dc_126_16 : decode (sm_cc 126) 16 = .ok (.iconst 0, 1) := by decide +kernel
theorem dc_126_17 : decode (sm_cc 126) 17 = .ok (.putfield 78, 3) := by decide +kernel
theorem fr_126_78 : sm_at mt_f (sm_ow 126) 78 = some (78, 4, 15, 0, 851) := by decide +kernel
theorem dc_126_20 : decode (sm_cc 126) 20 = .ok (.iconst 0, 1) := by decide +kernel
theorem dc_126_21 : decode (sm_cc 126) 21 = .ok (.istore_n 3, 1) := by decide +kernel
theorem dc_126_22 : decode (sm_cc 126) 22 = .ok (.iconst 1, 1) := by decide +kernel
theorem dc_126_23 : decode (sm_cc 126) 23 = .ok (.istore 4, 2) := by decide +kernel
theorem dc_126_25 : decode (sm_cc 126) 25 = .ok (.iconst 0, 1) := by decide +kernel
theorem dc_126_26 : decode (sm_cc 126) 26 = .ok (.istore 5, 2) := by decide +kernel
theorem dc_126_28 : decode (sm_cc 126) 28 = .ok (.iload 4, 2) := by decide +kernel
theorem dc_126_30 : decode (sm_cc 126) 30 = .ok (.ifCond .eq (158), 3) := by decide +kernel
theorem dc_126_33 : decode (sm_cc 126) 33 = .ok (.iload 5, 2) := by decide +kernel
theorem dc_126_35 : decode (sm_cc 126) 35 = .ok (.ldc 81, 2) := by decide +kernel
theorem ci_126_81 : sm_at mt_ci (sm_ow 126) 81 = some (81, (1000000000), 1342) := by decide +kernel
theorem dc_126_37 : decode (sm_cc 126) 37 = .ok (.if_icmp .ge (151), 3) := by decide +kernel
theorem dc_126_40 : decode (sm_cc 126) 40 = .ok (.aload_n 0, 1) := by decide +kernel
theorem dc_126_41 : decode (sm_cc 126) 41 = .ok (.invokevirtual 82, 3) := by decide +kernel
theorem kr_126_82 : sm_at mt_k (sm_ow 126) 82 = some (82, 0, 127, 0, 1343) := by decide +kernel
theorem dc_126_44 : decode (sm_cc 126) 44 = .ok (.istore 6, 2) := by decide +kernel
theorem dc_126_46 : decode (sm_cc 126) 46 = .ok (.iload 6, 2) := by decide +kernel
theorem dc_126_48 : decode (sm_cc 126) 48 = .ok (.bipush (15), 2) := by decide +kernel
theorem dc_126_50 : decode (sm_cc 126) 50 = .ok (.if_icmp .gt (13), 3) := by decide +kernel
theorem dc_126_63 : decode (sm_cc 126) 63 = .ok (.iload 6, 2) := by decide +kernel
theorem dc_126_65 : decode (sm_cc 126) 65 = .ok (.bipush (24), 2) := by decide +kernel
theorem dc_126_67 : decode (sm_cc 126) 67 = .ok (.if_icmp .gt (13), 3) := by decide +kernel
theorem dc_126_80 : decode (sm_cc 126) 80 = .ok (.iload 6, 2) := by decide +kernel
theorem dc_126_82 : decode (sm_cc 126) 82 = .ok (.bipush (43), 2) := by decide +kernel
theorem dc_126_84 : decode (sm_cc 126) 84 = .ok (.if_icmp .gt (16), 3) := by decide +kernel
theorem dc_126_100 : decode (sm_cc 126) 100 = .ok (.iload 6, 2) := by decide +kernel
theorem dc_126_102 : decode (sm_cc 126) 102 = .ok (.bipush (51), 2) := by decide +kernel
theorem dc_126_104 : decode (sm_cc 126) 104 = .ok (.if_icmp .eq (20), 3) := by decide +kernel
theorem dc_126_124 : decode (sm_cc 126) 124 = .ok (.aload_n 0, 1) := by decide +kernel
theorem dc_126_125 : decode (sm_cc 126) 125 = .ok (.invokevirtual 101, 3) := by decide +kernel
theorem ow_225 : 4 = sm_ow 225 := by decide +kernel
theorem kr_126_101 : sm_at mt_k (sm_ow 126) 101 = some (101, 0, 225, 0, 1790) := by decide +kernel
theorem np_225 : sm_np 225 = 0 := by decide +kernel
theorem dc_126_128 : decode (sm_cc 126) 128 = .ok (.ifCond .eq (21), 3) := by decide +kernel
theorem dc_126_131 : decode (sm_cc 126) 131 = .ok (.aload_n 0, 1) := by decide +kernel
theorem dc_126_132 : decode (sm_cc 126) 132 = .ok (.getfield 27, 3) := by decide +kernel
theorem fr_126_27 : sm_at mt_f (sm_ow 126) 27 = some (27, 4, 5, 0, 841) := by decide +kernel
theorem dc_126_135 : decode (sm_cc 126) 135 = .ok (.aload_n 0, 1) := by decide +kernel
theorem dc_126_136 : decode (sm_cc 126) 136 = .ok (.invokevirtual 105, 3) := by decide +kernel
theorem ow_226 : 4 = sm_ow 226 := by decide +kernel
theorem kr_126_105 : sm_at mt_k (sm_ow 126) 105 = some (105, 0, 226, 0, 1794) := by decide +kernel
theorem np_226 : sm_np 226 = 0 := by decide +kernel
theorem dc_126_139 : decode (sm_cc 126) 139 = .ok (.aload_n 0, 1) := by decide +kernel
theorem dc_126_140 : decode (sm_cc 126) 140 = .ok (.invokevirtual 82, 3) := by decide +kernel
theorem dc_126_143 : decode (sm_cc 126) 143 = .ok (.invokevirtual 108, 3) := by decide +kernel
theorem ow_227 : 0 = sm_ow 227 := by decide +kernel
theorem kr_126_108 : sm_at mt_k (sm_ow 126) 108 = some (108, 1, 227, 1, 1798) := by decide +kernel
theorem np_227 : sm_np 227 = 2 := by decide +kernel
theorem dc_126_146 : decode (sm_cc 126) 146 = .ok (.goto (11), 3) := by decide +kernel
theorem dc_126_157 : decode (sm_cc 126) 157 = .ok (.istore_n 3, 1) := by decide +kernel
theorem dc_126_158 : decode (sm_cc 126) 158 = .ok (.iload_n 3, 1) := by decide +kernel
theorem dc_126_159 : decode (sm_cc 126) 159 = .ok (.ifCond .ne (16), 3) := by decide +kernel
theorem dc_126_175 : decode (sm_cc 126) 175 = .ok (.aload_n 0, 1) := by decide +kernel
theorem dc_126_176 : decode (sm_cc 126) 176 = .ok (.iload_n 3, 1) := by decide +kernel
theorem dc_126_177 : decode (sm_cc 126) 177 = .ok (.invokevirtual 114, 3) := by decide +kernel
theorem ow_266 : 4 = sm_ow 266 := by decide +kernel
theorem kr_126_114 : sm_at mt_k (sm_ow 126) 114 = some (114, 0, 266, 0, 1996) := by decide +kernel
theorem np_266 : sm_np 266 = 1 := by decide +kernel
theorem dc_126_180 : decode (sm_cc 126) 180 = .ok (.istore 4, 2) := by decide +kernel
theorem dc_126_182 : decode (sm_cc 126) 182 = .ok (.iinc 5 (1), 3) := by decide +kernel
theorem dc_126_185 : decode (sm_cc 126) 185 = .ok (.goto (-157), 3) := by decide +kernel
theorem dc_126_162 : decode (sm_cc 126) 162 = .ok (.iload 6, 2) := by decide +kernel
theorem dc_126_164 : decode (sm_cc 126) 164 = .ok (.ifCond .eq (7), 3) := by decide +kernel
theorem dc_126_171 : decode (sm_cc 126) 171 = .ok (.iconst 0, 1) := by decide +kernel
theorem dc_126_172 : decode (sm_cc 126) 172 = .ok (.goto (8), 3) := by decide +kernel
theorem dc_126_167 : decode (sm_cc 126) 167 = .ok (.iconst 1, 1) := by decide +kernel
theorem dc_126_168 : decode (sm_cc 126) 168 = .ok (.goto (12), 3) := by decide +kernel
theorem dc_126_149 : decode (sm_cc 126) 149 = .ok (.aload_n 0, 1) := by decide +kernel
theorem dc_126_150 : decode (sm_cc 126) 150 = .ok (.aload_n 0, 1) := by decide +kernel
theorem dc_126_151 : decode (sm_cc 126) 151 = .ok (.invokevirtual 82, 3) := by decide +kernel
theorem dc_126_154 : decode (sm_cc 126) 154 = .ok (.invokevirtual 111, 3) := by decide +kernel
theorem ow_253 : 4 = sm_ow 253 := by decide +kernel
theorem kr_126_111 : sm_at mt_k (sm_ow 126) 111 = some (111, 0, 253, 0, 1939) := by decide +kernel
theorem np_253 : sm_np 253 = 1 := by decide +kernel
theorem dc_126_107 : decode (sm_cc 126) 107 = .ok (.aload_n 0, 1) := by decide +kernel
theorem dc_126_108 : decode (sm_cc 126) 108 = .ok (.getfield 36, 3) := by decide +kernel
theorem fr_126_36 : sm_at mt_f (sm_ow 126) 36 = some (36, 4, 4, 0, 840) := by decide +kernel
theorem dc_126_111 : decode (sm_cc 126) 111 = .ok (.iload 6, 2) := by decide +kernel
theorem dc_126_113 : decode (sm_cc 126) 113 = .ok (.aload_n 0, 1) := by decide +kernel
theorem dc_126_114 : decode (sm_cc 126) 114 = .ok (.invokevirtual 82, 3) := by decide +kernel
theorem dc_126_117 : decode (sm_cc 126) 117 = .ok (.invokevirtual 98, 3) := by decide +kernel
theorem ow_217 : 6 = sm_ow 217 := by decide +kernel
theorem kr_126_98 : sm_at mt_k (sm_ow 126) 98 = some (98, 1, 217, 1, 1751) := by decide +kernel
theorem np_217 : sm_np 217 = 2 := by decide +kernel
theorem dc_126_120 : decode (sm_cc 126) 120 = .ok (.istore_n 3, 1) := by decide +kernel
theorem dc_126_121 : decode (sm_cc 126) 121 = .ok (.goto (37), 3) := by decide +kernel
theorem dc_126_87 : decode (sm_cc 126) 87 = .ok (.aload_n 0, 1) := by decide +kernel
theorem dc_126_88 : decode (sm_cc 126) 88 = .ok (.getfield 36, 3) := by decide +kernel
theorem dc_126_91 : decode (sm_cc 126) 91 = .ok (.iload 6, 2) := by decide +kernel
theorem dc_126_93 : decode (sm_cc 126) 93 = .ok (.invokevirtual 95, 3) := by decide +kernel
theorem ow_189 : 6 = sm_ow 189 := by decide +kernel
theorem kr_126_95 : sm_at mt_k (sm_ow 126) 95 = some (95, 1, 189, 1, 1615) := by decide +kernel
theorem np_189 : sm_np 189 = 1 := by decide +kernel
theorem dc_126_96 : decode (sm_cc 126) 96 = .ok (.istore_n 3, 1) := by decide +kernel
theorem dc_126_97 : decode (sm_cc 126) 97 = .ok (.goto (61), 3) := by decide +kernel
theorem dc_126_70 : decode (sm_cc 126) 70 = .ok (.aload_n 0, 1) := by decide +kernel
theorem dc_126_71 : decode (sm_cc 126) 71 = .ok (.iload 6, 2) := by decide +kernel
theorem dc_126_73 : decode (sm_cc 126) 73 = .ok (.invokevirtual 92, 3) := by decide +kernel
theorem ow_161 : 4 = sm_ow 161 := by decide +kernel
theorem kr_126_92 : sm_at mt_k (sm_ow 126) 92 = some (92, 0, 161, 0, 1488) := by decide +kernel
theorem np_161 : sm_np 161 = 1 := by decide +kernel
theorem dc_126_76 : decode (sm_cc 126) 76 = .ok (.istore_n 3, 1) := by decide +kernel
theorem dc_126_77 : decode (sm_cc 126) 77 = .ok (.goto (81), 3) := by decide +kernel
theorem dc_126_53 : decode (sm_cc 126) 53 = .ok (.aload_n 0, 1) := by decide +kernel
theorem dc_126_54 : decode (sm_cc 126) 54 = .ok (.iload 6, 2) := by decide +kernel
theorem dc_126_56 : decode (sm_cc 126) 56 = .ok (.invokevirtual 88, 3) := by decide +kernel
theorem ow_128 : 4 = sm_ow 128 := by decide +kernel
theorem kr_126_88 : sm_at mt_k (sm_ow 126) 88 = some (88, 0, 128, 0, 1348) := by decide +kernel
theorem np_128 : sm_np 128 = 1 := by decide +kernel
theorem dc_126_59 : decode (sm_cc 126) 59 = .ok (.istore_n 3, 1) := by decide +kernel
theorem dc_126_60 : decode (sm_cc 126) 60 = .ok (.goto (98), 3) := by decide +kernel
theorem dc_126_188 : decode (sm_cc 126) 188 = .ok (.aload_n 0, 1) := by decide +kernel
theorem dc_126_189 : decode (sm_cc 126) 189 = .ok (.getfield 66, 3) := by decide +kernel
theorem fr_126_66 : sm_at mt_f (sm_ow 126) 66 = some (66, 4, 17, 0, 853) := by decide +kernel
theorem dc_126_192 : decode (sm_cc 126) 192 = .ok (.istore 5, 2) := by decide +kernel
theorem dc_126_194 : decode (sm_cc 126) 194 = .ok (.aload_n 0, 1) := by decide +kernel
theorem dc_126_195 : decode (sm_cc 126) 195 = .ok (.iconst 0, 1) := by decide +kernel
theorem dc_126_196 : decode (sm_cc 126) 196 = .ok (.invokevirtual 118, 3) := by decide +kernel
theorem kr_126_118 : sm_at mt_k (sm_ow 126) 118 = some (118, 0, 267, 0, 2000) := by decide +kernel
theorem dc_126_199 : decode (sm_cc 126) 199 = .ok (.aload_n 0, 1) := by decide +kernel
theorem dc_126_200 : decode (sm_cc 126) 200 = .ok (.getfield 23, 3) := by decide +kernel
theorem fr_126_23 : sm_at mt_f (sm_ow 126) 23 = some (23, 4, 3, 0, 839) := by decide +kernel
theorem dc_126_203 : decode (sm_cc 126) 203 = .ok (.aload_n 0, 1) := by decide +kernel
theorem dc_126_204 : decode (sm_cc 126) 204 = .ok (.getfield 23, 3) := by decide +kernel
theorem dc_126_207 : decode (sm_cc 126) 207 = .ok (.getfield 122, 3) := by decide +kernel
theorem fr_126_122 : sm_at mt_f (sm_ow 126) 122 = some (122, 9, 3, 1, 773) := by decide +kernel
theorem dc_126_210 : decode (sm_cc 126) 210 = .ok (.invokevirtual 127, 3) := by decide +kernel
theorem kr_126_127 : sm_at mt_k (sm_ow 126) 127 = some (127, 1, 141, 1, 1399) := by decide +kernel
theorem dc_126_213 : decode (sm_cc 126) 213 = .ok (.aload_n 0, 1) := by decide +kernel
theorem dc_126_214 : decode (sm_cc 126) 214 = .ok (.iload 5, 2) := by decide +kernel
theorem dc_126_216 : decode (sm_cc 126) 216 = .ok (.putfield 66, 3) := by decide +kernel
theorem dc_126_219 : decode (sm_cc 126) 219 = .ok (.iload 4, 2) := by decide +kernel
theorem dc_126_221 : decode (sm_cc 126) 221 = .ok (.ifCond .eq (8), 3) := by decide +kernel
theorem dc_126_229 : decode (sm_cc 126) 229 = .ok (.iload_n 3, 1) := by decide +kernel
theorem dc_126_230 : decode (sm_cc 126) 230 = .ok (.ireturn, 1) := by decide +kernel
theorem rt_126 : sm_rt 126 = some .int := by decide +kernel
theorem dc_126_224 : decode (sm_cc 126) 224 = .ok (.bipush (100), 2) := by decide +kernel
theorem dc_126_226 : decode (sm_cc 126) 226 = .ok (.goto (4), 3) := by decide +kernel
theorem mMc0_1 {d : Nat} {S Sf : cS} {v : Option Value} {S1 : cS} {a : Nat} {S2 : cS} {a1 : Nat} {S3 : cS} {S4 : cS} {a2 : Nat} {S5 : cS} (ma : a < 2 ^ 20) (c1 : Ans (d + 8) 127 [.ref 52] S (some (.int (nI a))) S1) (ma1 : a1 < 2 ^ 20) (c2 : Ans (d + 8) 127 [.ref 52] S1 (some (.int (nI a1))) S2) (c3 : Ans (d + 8) 127 [.ref 52] S2 (some (.int (nI 0))) S3) (b1 : a1 ≠ 1) (ma2 : a2 < 2 ^ 20) (c4 : Ans (d + 8) 178 [.ref 2, .int (nI 4)] S3 (some (.int (nI a2))) S4) (b2 : a2 ≠ 0) (c5 : Ans (d + 8) 179 [.ref 2, .int (nI a2), .int (nI a), .int (nI 0), .int (nI 0)] S4 none S5) (hB : ∀ lv1 : sm_L, sm_get lv1 0 = some (.ref 52) → sm_get lv1 2 = some (.int (nI a1)) → sm_get lv1 3 = some (.int (nI 0)) → sm_get lv1 5 = some (.int (nI a2)) → sm_get lv1 6 = some (.int (Int32.ofInt (-1))) → Bod (d + 8) 180 83 lv1 [] (S5) v Sf) : Bod (d + 8) 180 0 [(0, .ref 52)] [] S v Sf := by
  refine Bod.go dc_180_0 rfl ?_
  refine Bod.virt (r := []) dc_180_1 kr_180_82 ⟨Or.inl rfl, ow_127, cl_4⟩ (by rw [np_127]; rfl) (by rw [np_127]; rfl) (ob_of (mk_52 _)) (Nat.le_of_ble_eq_true rfl) (c1  ) ?_
  show Bod _ _ _ _ [_] _ _ _
  refine Bod.istn dc_180_4 (by rw [ml_180]; exact Nat.le_of_ble_eq_true rfl) ?_
  refine Bod.go dc_180_5 rfl ?_
  refine Bod.virt (r := []) dc_180_6 kr_180_82 ⟨Or.inl rfl, ow_127, cl_4⟩ (by rw [np_127]; rfl) (by rw [np_127]; rfl) (ob_of (mk_52 _)) (Nat.le_of_ble_eq_true rfl) (c2  ) ?_
  show Bod _ _ _ _ [_] _ _ _
  refine Bod.istn dc_180_9 (by rw [ml_180]; exact Nat.le_of_ble_eq_true rfl) ?_
  refine Bod.go dc_180_10 rfl ?_
  refine Bod.virt (r := []) dc_180_11 kr_180_82 ⟨Or.inl rfl, ow_127, cl_4⟩ (by rw [np_127]; rfl) (by rw [np_127]; rfl) (ob_of (mk_52 _)) (Nat.le_of_ble_eq_true rfl) (c3  ) ?_
  show Bod _ _ _ _ [_] _ _ _
  refine Bod.istn dc_180_14 (by rw [ml_180]; exact Nat.le_of_ble_eq_true rfl) ?_
  refine Bod.go dc_180_15 rfl ?_
  refine Bod.ic 1 (by decide) dc_180_16 ?_
  refine Bod.icT dc_180_17 rfl (k2_ne_T (k_ne a1 1 rfl rfl (by omega) (by omega) (by omega))) ?_
  refine Bod.ic 0 (by decide) dc_180_32 ?_
  refine Bod.ist dc_180_33 (by rw [ml_180]; exact Nat.le_of_ble_eq_true rfl) ?_
  refine Bod.go dc_180_35 rfl ?_
  refine Bod.ic 1 (by decide) dc_180_36 ?_
  refine Bod.icT dc_180_37 rfl (k2_ne_T (k_ne a1 1 rfl rfl (by omega) (by omega) (by omega))) ?_
  refine Bod.go dc_180_47 rfl ?_
  refine Bod.get dc_180_48 fr_180_15 (mk_52 _) rfl ?_
  refine Bod.ic 4 (by decide) dc_180_51 ?_
  refine Bod.virt (r := []) dc_180_52 kr_180_263 ⟨Or.inr rfl, ow_178, cl_2⟩ (by rw [np_178]; rfl) (by rw [np_178]; rfl) (ob_of (mk_2 _)) (Nat.le_of_ble_eq_true rfl) (c4  ) ?_
  show Bod _ _ _ _ [_] _ _ _
  refine Bod.ist dc_180_55 (by rw [ml_180]; exact Nat.le_of_ble_eq_true rfl) ?_
  refine Bod.go dc_180_57 rfl ?_
  refine Bod.ifT dc_180_59 rfl (k1_ne_T (k_ne a2 0 rfl rfl (by omega) (by omega) (by omega))) ?_
  refine Bod.go dc_180_65 rfl ?_
  refine Bod.get dc_180_66 fr_180_15 (mk_52 _) rfl ?_
  refine Bod.go dc_180_69 rfl ?_
  refine Bod.go dc_180_71 rfl ?_
  refine Bod.go dc_180_72 rfl ?_
  refine Bod.ic 0 (by decide) dc_180_74 ?_
  refine Bod.virt (r := []) dc_180_75 kr_180_266 ⟨Or.inr rfl, ow_179, cl_2⟩ (by rw [np_179]; rfl) (by rw [np_179]; rfl) (ob_of (mk_2 _)) (Nat.le_of_ble_eq_true rfl) (c5  ) ?_
  show Bod _ _ _ _ [] _ _ _
  refine Bod.go dc_180_78 rfl ?_
  refine Bod.ic 1 (by decide) dc_180_79 ?_
  refine Bod.subM dc_180_80 ?_
  refine Bod.ist dc_180_81 (by rw [ml_180]; exact Nat.le_of_ble_eq_true rfl) ?_
  exact hB _ (by first | rfl | exact (by repeat (first | exact rfl | exact sm_get_p1 | exact sm_get_p2e | refine sm_get_p1m (by decide) (by decide) ?_ | refine sm_get_p1n (by decide) rfl ?_ | refine sm_get_p2n (by decide) (by decide) rfl ?_))) (by first | rfl | exact (by repeat (first | exact rfl | exact sm_get_p1 | exact sm_get_p2e | refine sm_get_p1m (by decide) (by decide) ?_ | refine sm_get_p1n (by decide) rfl ?_ | refine sm_get_p2n (by decide) (by decide) rfl ?_))) (by first | rfl | exact (by repeat (first | exact rfl | exact sm_get_p1 | exact sm_get_p2e | refine sm_get_p1m (by decide) (by decide) ?_ | refine sm_get_p1n (by decide) rfl ?_ | refine sm_get_p2n (by decide) (by decide) rfl ?_))) (by first | rfl | exact (by repeat (first | exact rfl | exact sm_get_p1 | exact sm_get_p2e | refine sm_get_p1m (by decide) (by decide) ?_ | refine sm_get_p1n (by decide) rfl ?_ | refine sm_get_p2n (by decide) (by decide) rfl ?_))) (by first | rfl | exact (by repeat (first | exact rfl | exact sm_get_p1 | exact sm_get_p2e | refine sm_get_p1m (by decide) (by decide) ?_ | refine sm_get_p1n (by decide) rfl ?_ | refine sm_get_p2n (by decide) (by decide) rfl ?_)))
theorem mMc0_2 {d : Nat} {S : cS} {S1 : cS} {a : Nat} {S2 : cS} {a1 : Nat} {S3 : cS} {S4 : cS} {a2 : Nat} (ma : a < 2 ^ 20) (c1 : Ans (d + 8) 127 [.ref 52] S (some (.int (nI a))) S1) (ma1 : a1 < 2 ^ 20) (c2 : Ans (d + 8) 127 [.ref 52] S1 (some (.int (nI a1))) S2) (c3 : Ans (d + 8) 127 [.ref 52] S2 (some (.int (nI 0))) S3) (b1 : a1 ≠ 1) (ma2 : a2 < 2 ^ 20) (c4 : Ans (d + 8) 178 [.ref 2, .int (nI 4)] S3 (some (.int (nI a2))) S4) (b2 : a2 = 0) : Bod (d + 8) 180 0 [(0, .ref 52)] [] S (some (.int (nI 8))) (S4) := by
  refine Bod.go dc_180_0 rfl ?_
  refine Bod.virt (r := []) dc_180_1 kr_180_82 ⟨Or.inl rfl, ow_127, cl_4⟩ (by rw [np_127]; rfl) (by rw [np_127]; rfl) (ob_of (mk_52 _)) (Nat.le_of_ble_eq_true rfl) (c1  ) ?_
  show Bod _ _ _ _ [_] _ _ _
  refine Bod.istn dc_180_4 (by rw [ml_180]; exact Nat.le_of_ble_eq_true rfl) ?_
  refine Bod.go dc_180_5 rfl ?_
  refine Bod.virt (r := []) dc_180_6 kr_180_82 ⟨Or.inl rfl, ow_127, cl_4⟩ (by rw [np_127]; rfl) (by rw [np_127]; rfl) (ob_of (mk_52 _)) (Nat.le_of_ble_eq_true rfl) (c2  ) ?_
  show Bod _ _ _ _ [_] _ _ _
  refine Bod.istn dc_180_9 (by rw [ml_180]; exact Nat.le_of_ble_eq_true rfl) ?_
  refine Bod.go dc_180_10 rfl ?_
  refine Bod.virt (r := []) dc_180_11 kr_180_82 ⟨Or.inl rfl, ow_127, cl_4⟩ (by rw [np_127]; rfl) (by rw [np_127]; rfl) (ob_of (mk_52 _)) (Nat.le_of_ble_eq_true rfl) (c3  ) ?_
  show Bod _ _ _ _ [_] _ _ _
  refine Bod.istn dc_180_14 (by rw [ml_180]; exact Nat.le_of_ble_eq_true rfl) ?_
  refine Bod.go dc_180_15 rfl ?_
  refine Bod.ic 1 (by decide) dc_180_16 ?_
  refine Bod.icT dc_180_17 rfl (k2_ne_T (k_ne a1 1 rfl rfl (by omega) (by omega) (by omega))) ?_
  refine Bod.ic 0 (by decide) dc_180_32 ?_
  refine Bod.ist dc_180_33 (by rw [ml_180]; exact Nat.le_of_ble_eq_true rfl) ?_
  refine Bod.go dc_180_35 rfl ?_
  refine Bod.ic 1 (by decide) dc_180_36 ?_
  refine Bod.icT dc_180_37 rfl (k2_ne_T (k_ne a1 1 rfl rfl (by omega) (by omega) (by omega))) ?_
  refine Bod.go dc_180_47 rfl ?_
  refine Bod.get dc_180_48 fr_180_15 (mk_52 _) rfl ?_
  refine Bod.ic 4 (by decide) dc_180_51 ?_
  refine Bod.virt (r := []) dc_180_52 kr_180_263 ⟨Or.inr rfl, ow_178, cl_2⟩ (by rw [np_178]; rfl) (by rw [np_178]; rfl) (ob_of (mk_2 _)) (Nat.le_of_ble_eq_true rfl) (c4  ) ?_
  show Bod _ _ _ _ [_] _ _ _
  refine Bod.ist dc_180_55 (by rw [ml_180]; exact Nat.le_of_ble_eq_true rfl) ?_
  refine Bod.go dc_180_57 rfl ?_
  refine Bod.ifF dc_180_59 rfl (k1_ne_F (k_eq a2 0 rfl rfl (by omega))) ?_
  refine Bod.bip 8 (by decide) dc_180_62 ?_
  exact Bod.retI dc_180_64 rt_180
theorem mMc0_3 {d : Nat} {S Sf : cS} {v : Option Value} {S1 : cS} {a : Nat} {S2 : cS} {a1 : Nat} {S3 : cS} {S4 : cS} {a2 : Nat} {S5 : cS} {a3 : Nat} {S6 : cS} (ma : a < 2 ^ 20) (c1 : Ans (d + 8) 127 [.ref 52] S (some (.int (nI a))) S1) (ma1 : a1 < 2 ^ 20) (c2 : Ans (d + 8) 127 [.ref 52] S1 (some (.int (nI a1))) S2) (c3 : Ans (d + 8) 127 [.ref 52] S2 (some (.int (nI 0))) S3) (b1 : a1 = 1) (ma2 : a2 < 2 ^ 20) (c4 : Ans (d + 8) 152 [.ref 46, .int (nI 0), .int (nI 4)] S3 (some (.int (nI a2))) S4) (b2 : a1 ≠ 1) (ma3 : a3 < 2 ^ 20) (c5 : Ans (d + 8) 178 [.ref 2, .int (nI 4)] S4 (some (.int (nI a3))) S5) (b3 : a3 ≠ 0) (c6 : Ans (d + 8) 179 [.ref 2, .int (nI a3), .int (nI a), .int (nI a2), .int (nI 0)] S5 none S6) (hB : ∀ lv1 : sm_L, sm_get lv1 0 = some (.ref 52) → sm_get lv1 2 = some (.int (nI a1)) → sm_get lv1 3 = some (.int (nI 0)) → sm_get lv1 5 = some (.int (nI a3)) → sm_get lv1 6 = some (.int (Int32.ofInt (-1))) → Bod (d + 8) 180 83 lv1 [] (S6) v Sf) : Bod (d + 8) 180 0 [(0, .ref 52)] [] S v Sf := by
  refine Bod.go dc_180_0 rfl ?_
  refine Bod.virt (r := []) dc_180_1 kr_180_82 ⟨Or.inl rfl, ow_127, cl_4⟩ (by rw [np_127]; rfl) (by rw [np_127]; rfl) (ob_of (mk_52 _)) (Nat.le_of_ble_eq_true rfl) (c1  ) ?_
  show Bod _ _ _ _ [_] _ _ _
  refine Bod.istn dc_180_4 (by rw [ml_180]; exact Nat.le_of_ble_eq_true rfl) ?_
  refine Bod.go dc_180_5 rfl ?_
  refine Bod.virt (r := []) dc_180_6 kr_180_82 ⟨Or.inl rfl, ow_127, cl_4⟩ (by rw [np_127]; rfl) (by rw [np_127]; rfl) (ob_of (mk_52 _)) (Nat.le_of_ble_eq_true rfl) (c2  ) ?_
  show Bod _ _ _ _ [_] _ _ _
  refine Bod.istn dc_180_9 (by rw [ml_180]; exact Nat.le_of_ble_eq_true rfl) ?_
  refine Bod.go dc_180_10 rfl ?_
  refine Bod.virt (r := []) dc_180_11 kr_180_82 ⟨Or.inl rfl, ow_127, cl_4⟩ (by rw [np_127]; rfl) (by rw [np_127]; rfl) (ob_of (mk_52 _)) (Nat.le_of_ble_eq_true rfl) (c3  ) ?_
  show Bod _ _ _ _ [_] _ _ _
  refine Bod.istn dc_180_14 (by rw [ml_180]; exact Nat.le_of_ble_eq_true rfl) ?_
  refine Bod.go dc_180_15 rfl ?_
  refine Bod.ic 1 (by decide) dc_180_16 ?_
  refine Bod.icF dc_180_17 rfl (k2_ne_F (k_eq a1 1 rfl rfl (by omega))) ?_
  refine Bod.go dc_180_20 rfl ?_
  refine Bod.get dc_180_21 fr_180_23 (mk_52 _) rfl ?_
  refine Bod.ic 0 (by decide) dc_180_24 ?_
  refine Bod.ic 4 (by decide) dc_180_25 ?_
  refine Bod.virt (r := []) dc_180_26 kr_180_190 ⟨Or.inr rfl, ow_152, cl_9⟩ (by rw [np_152]; rfl) (by rw [np_152]; rfl) (ob_of (mk_46 _)) (Nat.le_of_ble_eq_true rfl) (c4  ) ?_
  show Bod _ _ _ _ [_] _ _ _
  refine Bod.go dc_180_29 rfl ?_
  refine Bod.ist dc_180_33 (by rw [ml_180]; exact Nat.le_of_ble_eq_true rfl) ?_
  refine Bod.go dc_180_35 rfl ?_
  refine Bod.ic 1 (by decide) dc_180_36 ?_
  refine Bod.icT dc_180_37 rfl (k2_ne_T (k_ne a1 1 rfl rfl (by omega) (by omega) (by omega))) ?_
  refine Bod.go dc_180_47 rfl ?_
  refine Bod.get dc_180_48 fr_180_15 (mk_52 _) rfl ?_
  refine Bod.ic 4 (by decide) dc_180_51 ?_
  refine Bod.virt (r := []) dc_180_52 kr_180_263 ⟨Or.inr rfl, ow_178, cl_2⟩ (by rw [np_178]; rfl) (by rw [np_178]; rfl) (ob_of (mk_2 _)) (Nat.le_of_ble_eq_true rfl) (c5  ) ?_
  show Bod _ _ _ _ [_] _ _ _
  refine Bod.ist dc_180_55 (by rw [ml_180]; exact Nat.le_of_ble_eq_true rfl) ?_
  refine Bod.go dc_180_57 rfl ?_
  refine Bod.ifT dc_180_59 rfl (k1_ne_T (k_ne a3 0 rfl rfl (by omega) (by omega) (by omega))) ?_
  refine Bod.go dc_180_65 rfl ?_
  refine Bod.get dc_180_66 fr_180_15 (mk_52 _) rfl ?_
  refine Bod.go dc_180_69 rfl ?_
  refine Bod.go dc_180_71 rfl ?_
  refine Bod.go dc_180_72 rfl ?_
  refine Bod.ic 0 (by decide) dc_180_74 ?_
  refine Bod.virt (r := []) dc_180_75 kr_180_266 ⟨Or.inr rfl, ow_179, cl_2⟩ (by rw [np_179]; rfl) (by rw [np_179]; rfl) (ob_of (mk_2 _)) (Nat.le_of_ble_eq_true rfl) (c6  ) ?_
  show Bod _ _ _ _ [] _ _ _
  refine Bod.go dc_180_78 rfl ?_
  refine Bod.ic 1 (by decide) dc_180_79 ?_
  refine Bod.subM dc_180_80 ?_
  refine Bod.ist dc_180_81 (by rw [ml_180]; exact Nat.le_of_ble_eq_true rfl) ?_
  exact hB _ (by first | rfl | exact (by repeat (first | exact rfl | exact sm_get_p1 | exact sm_get_p2e | refine sm_get_p1m (by decide) (by decide) ?_ | refine sm_get_p1n (by decide) rfl ?_ | refine sm_get_p2n (by decide) (by decide) rfl ?_))) (by first | rfl | exact (by repeat (first | exact rfl | exact sm_get_p1 | exact sm_get_p2e | refine sm_get_p1m (by decide) (by decide) ?_ | refine sm_get_p1n (by decide) rfl ?_ | refine sm_get_p2n (by decide) (by decide) rfl ?_))) (by first | rfl | exact (by repeat (first | exact rfl | exact sm_get_p1 | exact sm_get_p2e | refine sm_get_p1m (by decide) (by decide) ?_ | refine sm_get_p1n (by decide) rfl ?_ | refine sm_get_p2n (by decide) (by decide) rfl ?_))) (by first | rfl | exact (by repeat (first | exact rfl | exact sm_get_p1 | exact sm_get_p2e | refine sm_get_p1m (by decide) (by decide) ?_ | refine sm_get_p1n (by decide) rfl ?_ | refine sm_get_p2n (by decide) (by decide) rfl ?_))) (by first | rfl | exact (by repeat (first | exact rfl | exact sm_get_p1 | exact sm_get_p2e | refine sm_get_p1m (by decide) (by decide) ?_ | refine sm_get_p1n (by decide) rfl ?_ | refine sm_get_p2n (by decide) (by decide) rfl ?_)))
theorem mMc0_4 {d : Nat} {S : cS} {S1 : cS} {a : Nat} {S2 : cS} {a1 : Nat} {S3 : cS} {S4 : cS} {a2 : Nat} {S5 : cS} {a3 : Nat} (ma : a < 2 ^ 20) (c1 : Ans (d + 8) 127 [.ref 52] S (some (.int (nI a))) S1) (ma1 : a1 < 2 ^ 20) (c2 : Ans (d + 8) 127 [.ref 52] S1 (some (.int (nI a1))) S2) (c3 : Ans (d + 8) 127 [.ref 52] S2 (some (.int (nI 0))) S3) (b1 : a1 = 1) (ma2 : a2 < 2 ^ 20) (c4 : Ans (d + 8) 152 [.ref 46, .int (nI 0), .int (nI 4)] S3 (some (.int (nI a2))) S4) (b2 : a1 ≠ 1) (ma3 : a3 < 2 ^ 20) (c5 : Ans (d + 8) 178 [.ref 2, .int (nI 4)] S4 (some (.int (nI a3))) S5) (b3 : a3 = 0) : Bod (d + 8) 180 0 [(0, .ref 52)] [] S (some (.int (nI 8))) (S5) := by
  refine Bod.go dc_180_0 rfl ?_
  refine Bod.virt (r := []) dc_180_1 kr_180_82 ⟨Or.inl rfl, ow_127, cl_4⟩ (by rw [np_127]; rfl) (by rw [np_127]; rfl) (ob_of (mk_52 _)) (Nat.le_of_ble_eq_true rfl) (c1  ) ?_
  show Bod _ _ _ _ [_] _ _ _
  refine Bod.istn dc_180_4 (by rw [ml_180]; exact Nat.le_of_ble_eq_true rfl) ?_
  refine Bod.go dc_180_5 rfl ?_
  refine Bod.virt (r := []) dc_180_6 kr_180_82 ⟨Or.inl rfl, ow_127, cl_4⟩ (by rw [np_127]; rfl) (by rw [np_127]; rfl) (ob_of (mk_52 _)) (Nat.le_of_ble_eq_true rfl) (c2  ) ?_
  show Bod _ _ _ _ [_] _ _ _
  refine Bod.istn dc_180_9 (by rw [ml_180]; exact Nat.le_of_ble_eq_true rfl) ?_
  refine Bod.go dc_180_10 rfl ?_
  refine Bod.virt (r := []) dc_180_11 kr_180_82 ⟨Or.inl rfl, ow_127, cl_4⟩ (by rw [np_127]; rfl) (by rw [np_127]; rfl) (ob_of (mk_52 _)) (Nat.le_of_ble_eq_true rfl) (c3  ) ?_
  show Bod _ _ _ _ [_] _ _ _
  refine Bod.istn dc_180_14 (by rw [ml_180]; exact Nat.le_of_ble_eq_true rfl) ?_
  refine Bod.go dc_180_15 rfl ?_
  refine Bod.ic 1 (by decide) dc_180_16 ?_
  refine Bod.icF dc_180_17 rfl (k2_ne_F (k_eq a1 1 rfl rfl (by omega))) ?_
  refine Bod.go dc_180_20 rfl ?_
  refine Bod.get dc_180_21 fr_180_23 (mk_52 _) rfl ?_
  refine Bod.ic 0 (by decide) dc_180_24 ?_
  refine Bod.ic 4 (by decide) dc_180_25 ?_
  refine Bod.virt (r := []) dc_180_26 kr_180_190 ⟨Or.inr rfl, ow_152, cl_9⟩ (by rw [np_152]; rfl) (by rw [np_152]; rfl) (ob_of (mk_46 _)) (Nat.le_of_ble_eq_true rfl) (c4  ) ?_
  show Bod _ _ _ _ [_] _ _ _
  refine Bod.go dc_180_29 rfl ?_
  refine Bod.ist dc_180_33 (by rw [ml_180]; exact Nat.le_of_ble_eq_true rfl) ?_
  refine Bod.go dc_180_35 rfl ?_
  refine Bod.ic 1 (by decide) dc_180_36 ?_
  refine Bod.icT dc_180_37 rfl (k2_ne_T (k_ne a1 1 rfl rfl (by omega) (by omega) (by omega))) ?_
  refine Bod.go dc_180_47 rfl ?_
  refine Bod.get dc_180_48 fr_180_15 (mk_52 _) rfl ?_
  refine Bod.ic 4 (by decide) dc_180_51 ?_
  refine Bod.virt (r := []) dc_180_52 kr_180_263 ⟨Or.inr rfl, ow_178, cl_2⟩ (by rw [np_178]; rfl) (by rw [np_178]; rfl) (ob_of (mk_2 _)) (Nat.le_of_ble_eq_true rfl) (c5  ) ?_
  show Bod _ _ _ _ [_] _ _ _
  refine Bod.ist dc_180_55 (by rw [ml_180]; exact Nat.le_of_ble_eq_true rfl) ?_
  refine Bod.go dc_180_57 rfl ?_
  refine Bod.ifF dc_180_59 rfl (k1_ne_F (k_eq a3 0 rfl rfl (by omega))) ?_
  refine Bod.bip 8 (by decide) dc_180_62 ?_
  exact Bod.retI dc_180_64 rt_180
theorem mMc0_5 {d : Nat} {S Sf : cS} {v : Option Value} {S1 : cS} {a : Nat} {S2 : cS} {a1 : Nat} {S3 : cS} {S4 : cS} {a2 : Nat} {S5 : cS} {a3 : Nat} {S6 : cS} (ma : a < 2 ^ 20) (c1 : Ans (d + 8) 127 [.ref 52] S (some (.int (nI a))) S1) (ma1 : a1 < 2 ^ 20) (c2 : Ans (d + 8) 127 [.ref 52] S1 (some (.int (nI a1))) S2) (c3 : Ans (d + 8) 127 [.ref 52] S2 (some (.int (nI 0))) S3) (b1 : a1 = 1) (ma2 : a2 < 2 ^ 20) (c4 : Ans (d + 8) 152 [.ref 46, .int (nI 0), .int (nI 4)] S3 (some (.int (nI a2))) S4) (b2 : a1 = 1) (b3 : a2 ≠ 0) (ma3 : a3 < 2 ^ 20) (c5 : Ans (d + 8) 178 [.ref 2, .int (nI 4)] S4 (some (.int (nI a3))) S5) (b4 : a3 ≠ 0) (c6 : Ans (d + 8) 179 [.ref 2, .int (nI a3), .int (nI a), .int (nI a2), .int (nI 0)] S5 none S6) (hB : ∀ lv1 : sm_L, sm_get lv1 0 = some (.ref 52) → sm_get lv1 2 = some (.int (nI a1)) → sm_get lv1 3 = some (.int (nI 0)) → sm_get lv1 5 = some (.int (nI a3)) → sm_get lv1 6 = some (.int (Int32.ofInt (-1))) → Bod (d + 8) 180 83 lv1 [] (S6) v Sf) : Bod (d + 8) 180 0 [(0, .ref 52)] [] S v Sf := by
  refine Bod.go dc_180_0 rfl ?_
  refine Bod.virt (r := []) dc_180_1 kr_180_82 ⟨Or.inl rfl, ow_127, cl_4⟩ (by rw [np_127]; rfl) (by rw [np_127]; rfl) (ob_of (mk_52 _)) (Nat.le_of_ble_eq_true rfl) (c1  ) ?_
  show Bod _ _ _ _ [_] _ _ _
  refine Bod.istn dc_180_4 (by rw [ml_180]; exact Nat.le_of_ble_eq_true rfl) ?_
  refine Bod.go dc_180_5 rfl ?_
  refine Bod.virt (r := []) dc_180_6 kr_180_82 ⟨Or.inl rfl, ow_127, cl_4⟩ (by rw [np_127]; rfl) (by rw [np_127]; rfl) (ob_of (mk_52 _)) (Nat.le_of_ble_eq_true rfl) (c2  ) ?_
  show Bod _ _ _ _ [_] _ _ _
  refine Bod.istn dc_180_9 (by rw [ml_180]; exact Nat.le_of_ble_eq_true rfl) ?_
  refine Bod.go dc_180_10 rfl ?_
  refine Bod.virt (r := []) dc_180_11 kr_180_82 ⟨Or.inl rfl, ow_127, cl_4⟩ (by rw [np_127]; rfl) (by rw [np_127]; rfl) (ob_of (mk_52 _)) (Nat.le_of_ble_eq_true rfl) (c3  ) ?_
  show Bod _ _ _ _ [_] _ _ _
  refine Bod.istn dc_180_14 (by rw [ml_180]; exact Nat.le_of_ble_eq_true rfl) ?_
  refine Bod.go dc_180_15 rfl ?_
  refine Bod.ic 1 (by decide) dc_180_16 ?_
  refine Bod.icF dc_180_17 rfl (k2_ne_F (k_eq a1 1 rfl rfl (by omega))) ?_
  refine Bod.go dc_180_20 rfl ?_
  refine Bod.get dc_180_21 fr_180_23 (mk_52 _) rfl ?_
  refine Bod.ic 0 (by decide) dc_180_24 ?_
  refine Bod.ic 4 (by decide) dc_180_25 ?_
  refine Bod.virt (r := []) dc_180_26 kr_180_190 ⟨Or.inr rfl, ow_152, cl_9⟩ (by rw [np_152]; rfl) (by rw [np_152]; rfl) (ob_of (mk_46 _)) (Nat.le_of_ble_eq_true rfl) (c4  ) ?_
  show Bod _ _ _ _ [_] _ _ _
  refine Bod.go dc_180_29 rfl ?_
  refine Bod.ist dc_180_33 (by rw [ml_180]; exact Nat.le_of_ble_eq_true rfl) ?_
  refine Bod.go dc_180_35 rfl ?_
  refine Bod.ic 1 (by decide) dc_180_36 ?_
  refine Bod.icF dc_180_37 rfl (k2_ne_F (k_eq a1 1 rfl rfl (by omega))) ?_
  refine Bod.go dc_180_40 rfl ?_
  refine Bod.ifT dc_180_42 rfl (k1_ne_T (k_ne a2 0 rfl rfl (by omega) (by omega) (by omega))) ?_
  refine Bod.go dc_180_47 rfl ?_
  refine Bod.get dc_180_48 fr_180_15 (mk_52 _) rfl ?_
  refine Bod.ic 4 (by decide) dc_180_51 ?_
  refine Bod.virt (r := []) dc_180_52 kr_180_263 ⟨Or.inr rfl, ow_178, cl_2⟩ (by rw [np_178]; rfl) (by rw [np_178]; rfl) (ob_of (mk_2 _)) (Nat.le_of_ble_eq_true rfl) (c5  ) ?_
  show Bod _ _ _ _ [_] _ _ _
  refine Bod.ist dc_180_55 (by rw [ml_180]; exact Nat.le_of_ble_eq_true rfl) ?_
  refine Bod.go dc_180_57 rfl ?_
  refine Bod.ifT dc_180_59 rfl (k1_ne_T (k_ne a3 0 rfl rfl (by omega) (by omega) (by omega))) ?_
  refine Bod.go dc_180_65 rfl ?_
  refine Bod.get dc_180_66 fr_180_15 (mk_52 _) rfl ?_
  refine Bod.go dc_180_69 rfl ?_
  refine Bod.go dc_180_71 rfl ?_
  refine Bod.go dc_180_72 rfl ?_
  refine Bod.ic 0 (by decide) dc_180_74 ?_
  refine Bod.virt (r := []) dc_180_75 kr_180_266 ⟨Or.inr rfl, ow_179, cl_2⟩ (by rw [np_179]; rfl) (by rw [np_179]; rfl) (ob_of (mk_2 _)) (Nat.le_of_ble_eq_true rfl) (c6  ) ?_
  show Bod _ _ _ _ [] _ _ _
  refine Bod.go dc_180_78 rfl ?_
  refine Bod.ic 1 (by decide) dc_180_79 ?_
  refine Bod.subM dc_180_80 ?_
  refine Bod.ist dc_180_81 (by rw [ml_180]; exact Nat.le_of_ble_eq_true rfl) ?_
  exact hB _ (by first | rfl | exact (by repeat (first | exact rfl | exact sm_get_p1 | exact sm_get_p2e | refine sm_get_p1m (by decide) (by decide) ?_ | refine sm_get_p1n (by decide) rfl ?_ | refine sm_get_p2n (by decide) (by decide) rfl ?_))) (by first | rfl | exact (by repeat (first | exact rfl | exact sm_get_p1 | exact sm_get_p2e | refine sm_get_p1m (by decide) (by decide) ?_ | refine sm_get_p1n (by decide) rfl ?_ | refine sm_get_p2n (by decide) (by decide) rfl ?_))) (by first | rfl | exact (by repeat (first | exact rfl | exact sm_get_p1 | exact sm_get_p2e | refine sm_get_p1m (by decide) (by decide) ?_ | refine sm_get_p1n (by decide) rfl ?_ | refine sm_get_p2n (by decide) (by decide) rfl ?_))) (by first | rfl | exact (by repeat (first | exact rfl | exact sm_get_p1 | exact sm_get_p2e | refine sm_get_p1m (by decide) (by decide) ?_ | refine sm_get_p1n (by decide) rfl ?_ | refine sm_get_p2n (by decide) (by decide) rfl ?_))) (by first | rfl | exact (by repeat (first | exact rfl | exact sm_get_p1 | exact sm_get_p2e | refine sm_get_p1m (by decide) (by decide) ?_ | refine sm_get_p1n (by decide) rfl ?_ | refine sm_get_p2n (by decide) (by decide) rfl ?_)))
theorem mMc0_6 {d : Nat} {S : cS} {S1 : cS} {a : Nat} {S2 : cS} {a1 : Nat} {S3 : cS} {S4 : cS} {a2 : Nat} {S5 : cS} {a3 : Nat} (ma : a < 2 ^ 20) (c1 : Ans (d + 8) 127 [.ref 52] S (some (.int (nI a))) S1) (ma1 : a1 < 2 ^ 20) (c2 : Ans (d + 8) 127 [.ref 52] S1 (some (.int (nI a1))) S2) (c3 : Ans (d + 8) 127 [.ref 52] S2 (some (.int (nI 0))) S3) (b1 : a1 = 1) (ma2 : a2 < 2 ^ 20) (c4 : Ans (d + 8) 152 [.ref 46, .int (nI 0), .int (nI 4)] S3 (some (.int (nI a2))) S4) (b2 : a1 = 1) (b3 : a2 ≠ 0) (ma3 : a3 < 2 ^ 20) (c5 : Ans (d + 8) 178 [.ref 2, .int (nI 4)] S4 (some (.int (nI a3))) S5) (b4 : a3 = 0) : Bod (d + 8) 180 0 [(0, .ref 52)] [] S (some (.int (nI 8))) (S5) := by
  refine Bod.go dc_180_0 rfl ?_
  refine Bod.virt (r := []) dc_180_1 kr_180_82 ⟨Or.inl rfl, ow_127, cl_4⟩ (by rw [np_127]; rfl) (by rw [np_127]; rfl) (ob_of (mk_52 _)) (Nat.le_of_ble_eq_true rfl) (c1  ) ?_
  show Bod _ _ _ _ [_] _ _ _
  refine Bod.istn dc_180_4 (by rw [ml_180]; exact Nat.le_of_ble_eq_true rfl) ?_
  refine Bod.go dc_180_5 rfl ?_
  refine Bod.virt (r := []) dc_180_6 kr_180_82 ⟨Or.inl rfl, ow_127, cl_4⟩ (by rw [np_127]; rfl) (by rw [np_127]; rfl) (ob_of (mk_52 _)) (Nat.le_of_ble_eq_true rfl) (c2  ) ?_
  show Bod _ _ _ _ [_] _ _ _
  refine Bod.istn dc_180_9 (by rw [ml_180]; exact Nat.le_of_ble_eq_true rfl) ?_
  refine Bod.go dc_180_10 rfl ?_
  refine Bod.virt (r := []) dc_180_11 kr_180_82 ⟨Or.inl rfl, ow_127, cl_4⟩ (by rw [np_127]; rfl) (by rw [np_127]; rfl) (ob_of (mk_52 _)) (Nat.le_of_ble_eq_true rfl) (c3  ) ?_
  show Bod _ _ _ _ [_] _ _ _
  refine Bod.istn dc_180_14 (by rw [ml_180]; exact Nat.le_of_ble_eq_true rfl) ?_
  refine Bod.go dc_180_15 rfl ?_
  refine Bod.ic 1 (by decide) dc_180_16 ?_
  refine Bod.icF dc_180_17 rfl (k2_ne_F (k_eq a1 1 rfl rfl (by omega))) ?_
  refine Bod.go dc_180_20 rfl ?_
  refine Bod.get dc_180_21 fr_180_23 (mk_52 _) rfl ?_
  refine Bod.ic 0 (by decide) dc_180_24 ?_
  refine Bod.ic 4 (by decide) dc_180_25 ?_
  refine Bod.virt (r := []) dc_180_26 kr_180_190 ⟨Or.inr rfl, ow_152, cl_9⟩ (by rw [np_152]; rfl) (by rw [np_152]; rfl) (ob_of (mk_46 _)) (Nat.le_of_ble_eq_true rfl) (c4  ) ?_
  show Bod _ _ _ _ [_] _ _ _
  refine Bod.go dc_180_29 rfl ?_
  refine Bod.ist dc_180_33 (by rw [ml_180]; exact Nat.le_of_ble_eq_true rfl) ?_
  refine Bod.go dc_180_35 rfl ?_
  refine Bod.ic 1 (by decide) dc_180_36 ?_
  refine Bod.icF dc_180_37 rfl (k2_ne_F (k_eq a1 1 rfl rfl (by omega))) ?_
  refine Bod.go dc_180_40 rfl ?_
  refine Bod.ifT dc_180_42 rfl (k1_ne_T (k_ne a2 0 rfl rfl (by omega) (by omega) (by omega))) ?_
  refine Bod.go dc_180_47 rfl ?_
  refine Bod.get dc_180_48 fr_180_15 (mk_52 _) rfl ?_
  refine Bod.ic 4 (by decide) dc_180_51 ?_
  refine Bod.virt (r := []) dc_180_52 kr_180_263 ⟨Or.inr rfl, ow_178, cl_2⟩ (by rw [np_178]; rfl) (by rw [np_178]; rfl) (ob_of (mk_2 _)) (Nat.le_of_ble_eq_true rfl) (c5  ) ?_
  show Bod _ _ _ _ [_] _ _ _
  refine Bod.ist dc_180_55 (by rw [ml_180]; exact Nat.le_of_ble_eq_true rfl) ?_
  refine Bod.go dc_180_57 rfl ?_
  refine Bod.ifF dc_180_59 rfl (k1_ne_F (k_eq a3 0 rfl rfl (by omega))) ?_
  refine Bod.bip 8 (by decide) dc_180_62 ?_
  exact Bod.retI dc_180_64 rt_180
theorem mMc0_7 {d : Nat} {S : cS} {S1 : cS} {a : Nat} {S2 : cS} {a1 : Nat} {S3 : cS} {S4 : cS} {a2 : Nat} (ma : a < 2 ^ 20) (c1 : Ans (d + 8) 127 [.ref 52] S (some (.int (nI a))) S1) (ma1 : a1 < 2 ^ 20) (c2 : Ans (d + 8) 127 [.ref 52] S1 (some (.int (nI a1))) S2) (c3 : Ans (d + 8) 127 [.ref 52] S2 (some (.int (nI 0))) S3) (b1 : a1 = 1) (ma2 : a2 < 2 ^ 20) (c4 : Ans (d + 8) 152 [.ref 46, .int (nI 0), .int (nI 4)] S3 (some (.int (nI a2))) S4) (b2 : a1 = 1) (b3 : a2 = 0) : Bod (d + 8) 180 0 [(0, .ref 52)] [] S (some (.int (nI 2))) (S4) := by
  refine Bod.go dc_180_0 rfl ?_
  refine Bod.virt (r := []) dc_180_1 kr_180_82 ⟨Or.inl rfl, ow_127, cl_4⟩ (by rw [np_127]; rfl) (by rw [np_127]; rfl) (ob_of (mk_52 _)) (Nat.le_of_ble_eq_true rfl) (c1  ) ?_
  show Bod _ _ _ _ [_] _ _ _
  refine Bod.istn dc_180_4 (by rw [ml_180]; exact Nat.le_of_ble_eq_true rfl) ?_
  refine Bod.go dc_180_5 rfl ?_
  refine Bod.virt (r := []) dc_180_6 kr_180_82 ⟨Or.inl rfl, ow_127, cl_4⟩ (by rw [np_127]; rfl) (by rw [np_127]; rfl) (ob_of (mk_52 _)) (Nat.le_of_ble_eq_true rfl) (c2  ) ?_
  show Bod _ _ _ _ [_] _ _ _
  refine Bod.istn dc_180_9 (by rw [ml_180]; exact Nat.le_of_ble_eq_true rfl) ?_
  refine Bod.go dc_180_10 rfl ?_
  refine Bod.virt (r := []) dc_180_11 kr_180_82 ⟨Or.inl rfl, ow_127, cl_4⟩ (by rw [np_127]; rfl) (by rw [np_127]; rfl) (ob_of (mk_52 _)) (Nat.le_of_ble_eq_true rfl) (c3  ) ?_
  show Bod _ _ _ _ [_] _ _ _
  refine Bod.istn dc_180_14 (by rw [ml_180]; exact Nat.le_of_ble_eq_true rfl) ?_
  refine Bod.go dc_180_15 rfl ?_
  refine Bod.ic 1 (by decide) dc_180_16 ?_
  refine Bod.icF dc_180_17 rfl (k2_ne_F (k_eq a1 1 rfl rfl (by omega))) ?_
  refine Bod.go dc_180_20 rfl ?_
  refine Bod.get dc_180_21 fr_180_23 (mk_52 _) rfl ?_
  refine Bod.ic 0 (by decide) dc_180_24 ?_
  refine Bod.ic 4 (by decide) dc_180_25 ?_
  refine Bod.virt (r := []) dc_180_26 kr_180_190 ⟨Or.inr rfl, ow_152, cl_9⟩ (by rw [np_152]; rfl) (by rw [np_152]; rfl) (ob_of (mk_46 _)) (Nat.le_of_ble_eq_true rfl) (c4  ) ?_
  show Bod _ _ _ _ [_] _ _ _
  refine Bod.go dc_180_29 rfl ?_
  refine Bod.ist dc_180_33 (by rw [ml_180]; exact Nat.le_of_ble_eq_true rfl) ?_
  refine Bod.go dc_180_35 rfl ?_
  refine Bod.ic 1 (by decide) dc_180_36 ?_
  refine Bod.icF dc_180_37 rfl (k2_ne_F (k_eq a1 1 rfl rfl (by omega))) ?_
  refine Bod.go dc_180_40 rfl ?_
  refine Bod.ifF dc_180_42 rfl (k1_ne_F (k_eq a2 0 rfl rfl (by omega))) ?_
  refine Bod.ic 2 (by decide) dc_180_45 ?_
  exact Bod.retI dc_180_46 rt_180
theorem mPf_1 {d : Nat} {S Sf : cS} {v : Option Value} {sa : Nat} {mo : Int32} (msa : sa < 2 ^ 20) (hB : ∀ lv1 : sm_L, sm_get lv1 0 = some (.ref 52) → sm_get lv1 3 = some (.int (nI 0)) → sm_get lv1 4 = some (.int (nI 1)) → sm_get lv1 5 = some (.int (nI 0)) → Bod (d + 8) 126 28 lv1 [] (wI 5215 (nI 0) (wI 5214 (nI 0) (wI 5219 mo (wI 5216 (nI sa) S)))) v Sf) : Bod (d + 8) 126 0 [(0, .ref 52), (1, .int (nI sa)), (2, .int mo)] [] S v Sf := by
  refine Bod.go dc_126_0 rfl ?_
  refine Bod.go dc_126_1 rfl ?_
  refine Bod.put dc_126_2 fr_126_69 (mk_52 _) (Nat.le_of_ble_eq_true rfl) pf_4_16 (st_5216 _ _) (mu_I _ _ _) ?_
  refine Bod.go dc_126_5 rfl ?_
  refine Bod.go dc_126_6 rfl ?_
  refine Bod.put dc_126_7 fr_126_72 (mk_52 _) (Nat.le_of_ble_eq_true rfl) pf_4_19 (st_5219 _ _) (mu_I _ _ _) ?_
  refine Bod.go dc_126_10 rfl ?_
  refine Bod.ic 0 (by decide) dc_126_11 ?_
  refine Bod.put dc_126_12 fr_126_75 (mk_52 _) (Nat.le_of_ble_eq_true rfl) pf_4_14 (st_5214 _ _) (mu_I _ _ _) ?_
  refine Bod.go dc_126_15 rfl ?_
  refine Bod.ic 0 (by decide) dc_126_16 ?_
  refine Bod.put dc_126_17 fr_126_78 (mk_52 _) (Nat.le_of_ble_eq_true rfl) pf_4_15 (st_5215 _ _) (mu_I _ _ _) ?_
  refine Bod.ic 0 (by decide) dc_126_20 ?_
  refine Bod.istn dc_126_21 (by rw [ml_126]; exact Nat.le_of_ble_eq_true rfl) ?_
  refine Bod.ic 1 (by decide) dc_126_22 ?_
  refine Bod.ist dc_126_23 (by rw [ml_126]; exact Nat.le_of_ble_eq_true rfl) ?_
  refine Bod.ic 0 (by decide) dc_126_25 ?_
  refine Bod.ist dc_126_26 (by rw [ml_126]; exact Nat.le_of_ble_eq_true rfl) ?_
  exact hB _ (by first | rfl | exact (by repeat (first | exact rfl | exact sm_get_p1 | exact sm_get_p2e | refine sm_get_p1m (by decide) (by decide) ?_ | refine sm_get_p1n (by decide) rfl ?_ | refine sm_get_p2n (by decide) (by decide) rfl ?_))) (by first | rfl | exact (by repeat (first | exact rfl | exact sm_get_p1 | exact sm_get_p2e | refine sm_get_p1m (by decide) (by decide) ?_ | refine sm_get_p1n (by decide) rfl ?_ | refine sm_get_p2n (by decide) (by decide) rfl ?_))) (by first | rfl | exact (by repeat (first | exact rfl | exact sm_get_p1 | exact sm_get_p2e | refine sm_get_p1m (by decide) (by decide) ?_ | refine sm_get_p1n (by decide) rfl ?_ | refine sm_get_p2n (by decide) (by decide) rfl ?_))) (by first | rfl | exact (by repeat (first | exact rfl | exact sm_get_p1 | exact sm_get_p2e | refine sm_get_p1m (by decide) (by decide) ?_ | refine sm_get_p1n (by decide) rfl ?_ | refine sm_get_p2n (by decide) (by decide) rfl ?_)))
theorem mPfL_1 {d : Nat} {S Sf : cS} {v : Option Value} {lv : sm_L} {ex : Int32} {tn : Nat} (q0 : sm_get lv 0 = some (.ref 52)) (q3 : sm_get lv 3 = some (.int ex)) (q4 : sm_get lv 4 = some (.int (nI 1))) (q5 : sm_get lv 5 = some (.int (nI tn))) (mtn : tn < 1000000001) (b1 : 1000000000 ≤ tn) (hB : ∀ lv1 : sm_L, sm_get lv1 0 = some (.ref 52) → sm_get lv1 3 = some (.int ex) → sm_get lv1 4 = some (.int (nI 1)) → Bod (d + 8) 126 188 lv1 [] (S) v Sf) : Bod (d + 8) 126 28 lv [] S v Sf := by
  refine Bod.ildG dc_126_28 (by repeat (first | exact q4 | exact sm_get_p1 | exact sm_get_p2e | refine sm_get_p1m (by decide) (by decide) ?_ | refine sm_get_p1n (by decide) rfl ?_ | refine sm_get_p2n (by decide) (by decide) rfl ?_)) ?_
  refine Bod.ifF dc_126_30 rfl (k1_eq_F (k_ne 1 0 rfl rfl (by omega) (by omega) (by omega))) ?_
  refine Bod.ildG dc_126_33 (by repeat (first | exact q5 | exact sm_get_p1 | exact sm_get_p2e | refine sm_get_p1m (by decide) (by decide) ?_ | refine sm_get_p1n (by decide) rfl ?_ | refine sm_get_p2n (by decide) (by decide) rfl ?_)) ?_
  refine Bod.ldcN 1000000000 (by decide) dc_126_35 ci_126_81 ?_
  refine Bod.icT dc_126_37 rfl (k2_ge_T tn 1000000000 rfl rfl (by omega) (by omega)) ?_
  exact hB _ (by repeat (first | exact q0 | exact sm_get_p1 | exact sm_get_p2e | refine sm_get_p1m (by decide) (by decide) ?_ | refine sm_get_p1n (by decide) rfl ?_ | refine sm_get_p2n (by decide) (by decide) rfl ?_)) (by repeat (first | exact q3 | exact sm_get_p1 | exact sm_get_p2e | refine sm_get_p1m (by decide) (by decide) ?_ | refine sm_get_p1n (by decide) rfl ?_ | refine sm_get_p2n (by decide) (by decide) rfl ?_)) (by repeat (first | exact q4 | exact sm_get_p1 | exact sm_get_p2e | refine sm_get_p1m (by decide) (by decide) ?_ | refine sm_get_p1n (by decide) rfl ?_ | refine sm_get_p2n (by decide) (by decide) rfl ?_))
theorem mPfL_2 {d : Nat} {S Sf : cS} {v : Option Value} {lv : sm_L} {ex : Int32} {tn : Nat} {S1 : cS} {a : Nat} {S2 : cS} {S3 : cS} {a1 : Nat} {S4 : cS} {a2 : Nat} {S5 : cS} {rb : Int32} {S6 : cS} (q0 : sm_get lv 0 = some (.ref 52)) (q3 : sm_get lv 3 = some (.int ex)) (q4 : sm_get lv 4 = some (.int (nI 1))) (q5 : sm_get lv 5 = some (.int (nI tn))) (mtn : tn < 1000000001) (b1 : tn < 1000000000) (ma : a < 2 ^ 20) (c1 : Ans (d + 8) 127 [.ref 52] S (some (.int (nI a))) S1) (b2 : 15 < a) (b3 : 24 < a) (b4 : 43 < a) (b5 : a = 51) (c2 : Ans (d + 8) 225 [.ref 52] S1 (some (.int (nI 1))) S2) (ma1 : a1 < 2 ^ 20) (c3 : Ans (d + 8) 226 [.ref 52] S2 (some (.int (nI a1))) S3) (ma2 : a2 < 2 ^ 20) (c4 : Ans (d + 8) 127 [.ref 52] S3 (some (.int (nI a2))) S4) (c5 : Ans (d + 8) 227 [.ref 49, .int (nI a1), .int (nI a2)] S4 (some (.int rb)) S5) (w15 : sm_c1 .ne rb true false = true) (c6 : Ans (d + 8) 266 [.ref 52, .int rb] S5 (some (.int (nI 1))) S6) (hB : ∀ lv1 : sm_L, sm_get lv1 0 = some (.ref 52) → sm_get lv1 3 = some (.int rb) → sm_get lv1 4 = some (.int (nI 1)) → sm_get lv1 5 = some (.int (nI (tn + 1))) → Bod (d + 8) 126 28 lv1 [] (S6) v Sf) : Bod (d + 8) 126 28 lv [] S v Sf := by
  refine Bod.ildG dc_126_28 (by repeat (first | exact q4 | exact sm_get_p1 | exact sm_get_p2e | refine sm_get_p1m (by decide) (by decide) ?_ | refine sm_get_p1n (by decide) rfl ?_ | refine sm_get_p2n (by decide) (by decide) rfl ?_)) ?_
  refine Bod.ifF dc_126_30 rfl (k1_eq_F (k_ne 1 0 rfl rfl (by omega) (by omega) (by omega))) ?_
  refine Bod.ildG dc_126_33 (by repeat (first | exact q5 | exact sm_get_p1 | exact sm_get_p2e | refine sm_get_p1m (by decide) (by decide) ?_ | refine sm_get_p1n (by decide) rfl ?_ | refine sm_get_p2n (by decide) (by decide) rfl ?_)) ?_
  refine Bod.ldcN 1000000000 (by decide) dc_126_35 ci_126_81 ?_
  refine Bod.icF dc_126_37 rfl (k2_ge_F tn 1000000000 rfl rfl (by omega) (by omega)) ?_
  refine Bod.aldnG dc_126_40 (by repeat (first | exact q0 | exact sm_get_p1 | exact sm_get_p2e | refine sm_get_p1m (by decide) (by decide) ?_ | refine sm_get_p1n (by decide) rfl ?_ | refine sm_get_p2n (by decide) (by decide) rfl ?_)) ?_
  refine Bod.virt (r := []) dc_126_41 kr_126_82 ⟨Or.inl rfl, ow_127, cl_4⟩ (by rw [np_127]; rfl) (by rw [np_127]; rfl) (ob_of (mk_52 _)) (Nat.le_of_ble_eq_true rfl) (c1  ) ?_
  show Bod _ _ _ _ [_] _ _ _
  refine Bod.ist dc_126_44 (by rw [ml_126]; exact Nat.le_of_ble_eq_true rfl) ?_
  refine Bod.ildG dc_126_46 (by repeat (first | exact q0 | exact sm_get_p1 | exact sm_get_p2e | refine sm_get_p1m (by decide) (by decide) ?_ | refine sm_get_p1n (by decide) rfl ?_ | refine sm_get_p2n (by decide) (by decide) rfl ?_)) ?_
  refine Bod.bip 15 (by decide) dc_126_48 ?_
  refine Bod.icT dc_126_50 rfl (k2_gt_T a 15 rfl rfl (by omega) (by omega)) ?_
  refine Bod.ildG dc_126_63 (by repeat (first | exact q0 | exact sm_get_p1 | exact sm_get_p2e | refine sm_get_p1m (by decide) (by decide) ?_ | refine sm_get_p1n (by decide) rfl ?_ | refine sm_get_p2n (by decide) (by decide) rfl ?_)) ?_
  refine Bod.bip 24 (by decide) dc_126_65 ?_
  refine Bod.icT dc_126_67 rfl (k2_gt_T a 24 rfl rfl (by omega) (by omega)) ?_
  refine Bod.ildG dc_126_80 (by repeat (first | exact q0 | exact sm_get_p1 | exact sm_get_p2e | refine sm_get_p1m (by decide) (by decide) ?_ | refine sm_get_p1n (by decide) rfl ?_ | refine sm_get_p2n (by decide) (by decide) rfl ?_)) ?_
  refine Bod.bip 43 (by decide) dc_126_82 ?_
  refine Bod.icT dc_126_84 rfl (k2_gt_T a 43 rfl rfl (by omega) (by omega)) ?_
  refine Bod.ildG dc_126_100 (by repeat (first | exact q0 | exact sm_get_p1 | exact sm_get_p2e | refine sm_get_p1m (by decide) (by decide) ?_ | refine sm_get_p1n (by decide) rfl ?_ | refine sm_get_p2n (by decide) (by decide) rfl ?_)) ?_
  refine Bod.bip 51 (by decide) dc_126_102 ?_
  refine Bod.icT dc_126_104 rfl (k2_eq_T (k_eq a 51 rfl rfl (by omega))) ?_
  refine Bod.aldnG dc_126_124 (by repeat (first | exact q0 | exact sm_get_p1 | exact sm_get_p2e | refine sm_get_p1m (by decide) (by decide) ?_ | refine sm_get_p1n (by decide) rfl ?_ | refine sm_get_p2n (by decide) (by decide) rfl ?_)) ?_
  refine Bod.virt (r := []) dc_126_125 kr_126_101 ⟨Or.inl rfl, ow_225, cl_4⟩ (by rw [np_225]; rfl) (by rw [np_225]; rfl) (ob_of (mk_52 _)) (Nat.le_of_ble_eq_true rfl) (c2  ) ?_
  show Bod _ _ _ _ [_] _ _ _
  refine Bod.ifF dc_126_128 rfl (k1_eq_F (k_ne 1 0 rfl rfl (by omega) (by omega) (by omega))) ?_
  refine Bod.aldnG dc_126_131 (by repeat (first | exact q0 | exact sm_get_p1 | exact sm_get_p2e | refine sm_get_p1m (by decide) (by decide) ?_ | refine sm_get_p1n (by decide) rfl ?_ | refine sm_get_p2n (by decide) (by decide) rfl ?_)) ?_
  refine Bod.get dc_126_132 fr_126_27 (mk_52 _) rfl ?_
  refine Bod.aldnG dc_126_135 (by repeat (first | exact q0 | exact sm_get_p1 | exact sm_get_p2e | refine sm_get_p1m (by decide) (by decide) ?_ | refine sm_get_p1n (by decide) rfl ?_ | refine sm_get_p2n (by decide) (by decide) rfl ?_)) ?_
  refine Bod.virt (r := [_]) dc_126_136 kr_126_105 ⟨Or.inl rfl, ow_226, cl_4⟩ (by rw [np_226]; rfl) (by rw [np_226]; rfl) (ob_of (mk_52 _)) (Nat.le_of_ble_eq_true rfl) (c3  ) ?_
  show Bod _ _ _ _ [_, _] _ _ _
  refine Bod.aldnG dc_126_139 (by repeat (first | exact q0 | exact sm_get_p1 | exact sm_get_p2e | refine sm_get_p1m (by decide) (by decide) ?_ | refine sm_get_p1n (by decide) rfl ?_ | refine sm_get_p2n (by decide) (by decide) rfl ?_)) ?_
  refine Bod.virt (r := [_, _]) dc_126_140 kr_126_82 ⟨Or.inl rfl, ow_127, cl_4⟩ (by rw [np_127]; rfl) (by rw [np_127]; rfl) (ob_of (mk_52 _)) (Nat.le_of_ble_eq_true rfl) (c4  ) ?_
  show Bod _ _ _ _ [_, _, _] _ _ _
  refine Bod.virt (r := []) dc_126_143 kr_126_108 ⟨Or.inr rfl, ow_227, cl_0⟩ (by rw [np_227]; rfl) (by rw [np_227]; rfl) (ob_of (mk_49 _)) (Nat.le_of_ble_eq_true rfl) (c5  ) ?_
  show Bod _ _ _ _ [_] _ _ _
  refine Bod.go dc_126_146 rfl ?_
  refine Bod.istn dc_126_157 (by rw [ml_126]; exact Nat.le_of_ble_eq_true rfl) ?_
  refine Bod.ildnG dc_126_158 (by repeat (first | exact q0 | exact sm_get_p1 | exact sm_get_p2e | refine sm_get_p1m (by decide) (by decide) ?_ | refine sm_get_p1n (by decide) rfl ?_ | refine sm_get_p2n (by decide) (by decide) rfl ?_)) ?_
  refine Bod.ifT dc_126_159 rfl w15 ?_
  refine Bod.aldnG dc_126_175 (by repeat (first | exact q0 | exact sm_get_p1 | exact sm_get_p2e | refine sm_get_p1m (by decide) (by decide) ?_ | refine sm_get_p1n (by decide) rfl ?_ | refine sm_get_p2n (by decide) (by decide) rfl ?_)) ?_
  refine Bod.ildnG dc_126_176 (by repeat (first | exact q0 | exact sm_get_p1 | exact sm_get_p2e | refine sm_get_p1m (by decide) (by decide) ?_ | refine sm_get_p1n (by decide) rfl ?_ | refine sm_get_p2n (by decide) (by decide) rfl ?_)) ?_
  refine Bod.virt (r := []) dc_126_177 kr_126_114 ⟨Or.inl rfl, ow_266, cl_4⟩ (by rw [np_266]; rfl) (by rw [np_266]; rfl) (ob_of (mk_52 _)) (Nat.le_of_ble_eq_true rfl) (c6  ) ?_
  show Bod _ _ _ _ [_] _ _ _
  refine Bod.ist dc_126_180 (by rw [ml_126]; exact Nat.le_of_ble_eq_true rfl) ?_
  refine Bod.incN (tn + 1) (by rw [kc_1, nI_add]) dc_126_182 (by rw [ml_126]; exact Nat.le_of_ble_eq_true rfl) (by repeat (first | exact q5 | exact sm_get_p1 | exact sm_get_p2e | refine sm_get_p1m (by decide) (by decide) ?_ | refine sm_get_p1n (by decide) rfl ?_ | refine sm_get_p2n (by decide) (by decide) rfl ?_)) ?_
  refine Bod.go dc_126_185 rfl ?_
  exact hB _ (by repeat (first | exact q0 | exact sm_get_p1 | exact sm_get_p2e | refine sm_get_p1m (by decide) (by decide) ?_ | refine sm_get_p1n (by decide) rfl ?_ | refine sm_get_p2n (by decide) (by decide) rfl ?_)) (by repeat (first | exact q0 | exact sm_get_p1 | exact sm_get_p2e | refine sm_get_p1m (by decide) (by decide) ?_ | refine sm_get_p1n (by decide) rfl ?_ | refine sm_get_p2n (by decide) (by decide) rfl ?_)) (by repeat (first | exact q0 | exact sm_get_p1 | exact sm_get_p2e | refine sm_get_p1m (by decide) (by decide) ?_ | refine sm_get_p1n (by decide) rfl ?_ | refine sm_get_p2n (by decide) (by decide) rfl ?_)) (by repeat (first | exact q0 | exact sm_get_p1 | exact sm_get_p2e | refine sm_get_p1m (by decide) (by decide) ?_ | refine sm_get_p1n (by decide) rfl ?_ | refine sm_get_p2n (by decide) (by decide) rfl ?_))
theorem mPfL_3 {d : Nat} {S Sf : cS} {v : Option Value} {lv : sm_L} {ex : Int32} {tn : Nat} {S1 : cS} {a : Nat} {S2 : cS} {S3 : cS} {a1 : Nat} {S4 : cS} {a2 : Nat} {S5 : cS} {rb : Int32} {S6 : cS} (q0 : sm_get lv 0 = some (.ref 52)) (q3 : sm_get lv 3 = some (.int ex)) (q4 : sm_get lv 4 = some (.int (nI 1))) (q5 : sm_get lv 5 = some (.int (nI tn))) (mtn : tn < 1000000001) (b1 : tn < 1000000000) (ma : a < 2 ^ 20) (c1 : Ans (d + 8) 127 [.ref 52] S (some (.int (nI a))) S1) (b2 : 15 < a) (b3 : 24 < a) (b4 : 43 < a) (b5 : a = 51) (c2 : Ans (d + 8) 225 [.ref 52] S1 (some (.int (nI 1))) S2) (ma1 : a1 < 2 ^ 20) (c3 : Ans (d + 8) 226 [.ref 52] S2 (some (.int (nI a1))) S3) (ma2 : a2 < 2 ^ 20) (c4 : Ans (d + 8) 127 [.ref 52] S3 (some (.int (nI a2))) S4) (c5 : Ans (d + 8) 227 [.ref 49, .int (nI a1), .int (nI a2)] S4 (some (.int rb)) S5) (w15 : sm_c1 .ne rb true false = true) (c6 : Ans (d + 8) 266 [.ref 52, .int rb] S5 (some (.int (nI 0))) S6) (hB : ∀ lv1 : sm_L, sm_get lv1 0 = some (.ref 52) → sm_get lv1 3 = some (.int rb) → sm_get lv1 4 = some (.int (nI 0)) → sm_get lv1 5 = some (.int (nI (tn + 1))) → Bod (d + 8) 126 28 lv1 [] (S6) v Sf) : Bod (d + 8) 126 28 lv [] S v Sf := by
  refine Bod.ildG dc_126_28 (by repeat (first | exact q4 | exact sm_get_p1 | exact sm_get_p2e | refine sm_get_p1m (by decide) (by decide) ?_ | refine sm_get_p1n (by decide) rfl ?_ | refine sm_get_p2n (by decide) (by decide) rfl ?_)) ?_
  refine Bod.ifF dc_126_30 rfl (k1_eq_F (k_ne 1 0 rfl rfl (by omega) (by omega) (by omega))) ?_
  refine Bod.ildG dc_126_33 (by repeat (first | exact q5 | exact sm_get_p1 | exact sm_get_p2e | refine sm_get_p1m (by decide) (by decide) ?_ | refine sm_get_p1n (by decide) rfl ?_ | refine sm_get_p2n (by decide) (by decide) rfl ?_)) ?_
  refine Bod.ldcN 1000000000 (by decide) dc_126_35 ci_126_81 ?_
  refine Bod.icF dc_126_37 rfl (k2_ge_F tn 1000000000 rfl rfl (by omega) (by omega)) ?_
  refine Bod.aldnG dc_126_40 (by repeat (first | exact q0 | exact sm_get_p1 | exact sm_get_p2e | refine sm_get_p1m (by decide) (by decide) ?_ | refine sm_get_p1n (by decide) rfl ?_ | refine sm_get_p2n (by decide) (by decide) rfl ?_)) ?_
  refine Bod.virt (r := []) dc_126_41 kr_126_82 ⟨Or.inl rfl, ow_127, cl_4⟩ (by rw [np_127]; rfl) (by rw [np_127]; rfl) (ob_of (mk_52 _)) (Nat.le_of_ble_eq_true rfl) (c1  ) ?_
  show Bod _ _ _ _ [_] _ _ _
  refine Bod.ist dc_126_44 (by rw [ml_126]; exact Nat.le_of_ble_eq_true rfl) ?_
  refine Bod.ildG dc_126_46 (by repeat (first | exact q0 | exact sm_get_p1 | exact sm_get_p2e | refine sm_get_p1m (by decide) (by decide) ?_ | refine sm_get_p1n (by decide) rfl ?_ | refine sm_get_p2n (by decide) (by decide) rfl ?_)) ?_
  refine Bod.bip 15 (by decide) dc_126_48 ?_
  refine Bod.icT dc_126_50 rfl (k2_gt_T a 15 rfl rfl (by omega) (by omega)) ?_
  refine Bod.ildG dc_126_63 (by repeat (first | exact q0 | exact sm_get_p1 | exact sm_get_p2e | refine sm_get_p1m (by decide) (by decide) ?_ | refine sm_get_p1n (by decide) rfl ?_ | refine sm_get_p2n (by decide) (by decide) rfl ?_)) ?_
  refine Bod.bip 24 (by decide) dc_126_65 ?_
  refine Bod.icT dc_126_67 rfl (k2_gt_T a 24 rfl rfl (by omega) (by omega)) ?_
  refine Bod.ildG dc_126_80 (by repeat (first | exact q0 | exact sm_get_p1 | exact sm_get_p2e | refine sm_get_p1m (by decide) (by decide) ?_ | refine sm_get_p1n (by decide) rfl ?_ | refine sm_get_p2n (by decide) (by decide) rfl ?_)) ?_
  refine Bod.bip 43 (by decide) dc_126_82 ?_
  refine Bod.icT dc_126_84 rfl (k2_gt_T a 43 rfl rfl (by omega) (by omega)) ?_
  refine Bod.ildG dc_126_100 (by repeat (first | exact q0 | exact sm_get_p1 | exact sm_get_p2e | refine sm_get_p1m (by decide) (by decide) ?_ | refine sm_get_p1n (by decide) rfl ?_ | refine sm_get_p2n (by decide) (by decide) rfl ?_)) ?_
  refine Bod.bip 51 (by decide) dc_126_102 ?_
  refine Bod.icT dc_126_104 rfl (k2_eq_T (k_eq a 51 rfl rfl (by omega))) ?_
  refine Bod.aldnG dc_126_124 (by repeat (first | exact q0 | exact sm_get_p1 | exact sm_get_p2e | refine sm_get_p1m (by decide) (by decide) ?_ | refine sm_get_p1n (by decide) rfl ?_ | refine sm_get_p2n (by decide) (by decide) rfl ?_)) ?_
  refine Bod.virt (r := []) dc_126_125 kr_126_101 ⟨Or.inl rfl, ow_225, cl_4⟩ (by rw [np_225]; rfl) (by rw [np_225]; rfl) (ob_of (mk_52 _)) (Nat.le_of_ble_eq_true rfl) (c2  ) ?_
  show Bod _ _ _ _ [_] _ _ _
  refine Bod.ifF dc_126_128 rfl (k1_eq_F (k_ne 1 0 rfl rfl (by omega) (by omega) (by omega))) ?_
  refine Bod.aldnG dc_126_131 (by repeat (first | exact q0 | exact sm_get_p1 | exact sm_get_p2e | refine sm_get_p1m (by decide) (by decide) ?_ | refine sm_get_p1n (by decide) rfl ?_ | refine sm_get_p2n (by decide) (by decide) rfl ?_)) ?_
  refine Bod.get dc_126_132 fr_126_27 (mk_52 _) rfl ?_
  refine Bod.aldnG dc_126_135 (by repeat (first | exact q0 | exact sm_get_p1 | exact sm_get_p2e | refine sm_get_p1m (by decide) (by decide) ?_ | refine sm_get_p1n (by decide) rfl ?_ | refine sm_get_p2n (by decide) (by decide) rfl ?_)) ?_
  refine Bod.virt (r := [_]) dc_126_136 kr_126_105 ⟨Or.inl rfl, ow_226, cl_4⟩ (by rw [np_226]; rfl) (by rw [np_226]; rfl) (ob_of (mk_52 _)) (Nat.le_of_ble_eq_true rfl) (c3  ) ?_
  show Bod _ _ _ _ [_, _] _ _ _
  refine Bod.aldnG dc_126_139 (by repeat (first | exact q0 | exact sm_get_p1 | exact sm_get_p2e | refine sm_get_p1m (by decide) (by decide) ?_ | refine sm_get_p1n (by decide) rfl ?_ | refine sm_get_p2n (by decide) (by decide) rfl ?_)) ?_
  refine Bod.virt (r := [_, _]) dc_126_140 kr_126_82 ⟨Or.inl rfl, ow_127, cl_4⟩ (by rw [np_127]; rfl) (by rw [np_127]; rfl) (ob_of (mk_52 _)) (Nat.le_of_ble_eq_true rfl) (c4  ) ?_
  show Bod _ _ _ _ [_, _, _] _ _ _
  refine Bod.virt (r := []) dc_126_143 kr_126_108 ⟨Or.inr rfl, ow_227, cl_0⟩ (by rw [np_227]; rfl) (by rw [np_227]; rfl) (ob_of (mk_49 _)) (Nat.le_of_ble_eq_true rfl) (c5  ) ?_
  show Bod _ _ _ _ [_] _ _ _
  refine Bod.go dc_126_146 rfl ?_
  refine Bod.istn dc_126_157 (by rw [ml_126]; exact Nat.le_of_ble_eq_true rfl) ?_
  refine Bod.ildnG dc_126_158 (by repeat (first | exact q0 | exact sm_get_p1 | exact sm_get_p2e | refine sm_get_p1m (by decide) (by decide) ?_ | refine sm_get_p1n (by decide) rfl ?_ | refine sm_get_p2n (by decide) (by decide) rfl ?_)) ?_
  refine Bod.ifT dc_126_159 rfl w15 ?_
  refine Bod.aldnG dc_126_175 (by repeat (first | exact q0 | exact sm_get_p1 | exact sm_get_p2e | refine sm_get_p1m (by decide) (by decide) ?_ | refine sm_get_p1n (by decide) rfl ?_ | refine sm_get_p2n (by decide) (by decide) rfl ?_)) ?_
  refine Bod.ildnG dc_126_176 (by repeat (first | exact q0 | exact sm_get_p1 | exact sm_get_p2e | refine sm_get_p1m (by decide) (by decide) ?_ | refine sm_get_p1n (by decide) rfl ?_ | refine sm_get_p2n (by decide) (by decide) rfl ?_)) ?_
  refine Bod.virt (r := []) dc_126_177 kr_126_114 ⟨Or.inl rfl, ow_266, cl_4⟩ (by rw [np_266]; rfl) (by rw [np_266]; rfl) (ob_of (mk_52 _)) (Nat.le_of_ble_eq_true rfl) (c6  ) ?_
  show Bod _ _ _ _ [_] _ _ _
  refine Bod.ist dc_126_180 (by rw [ml_126]; exact Nat.le_of_ble_eq_true rfl) ?_
  refine Bod.incN (tn + 1) (by rw [kc_1, nI_add]) dc_126_182 (by rw [ml_126]; exact Nat.le_of_ble_eq_true rfl) (by repeat (first | exact q5 | exact sm_get_p1 | exact sm_get_p2e | refine sm_get_p1m (by decide) (by decide) ?_ | refine sm_get_p1n (by decide) rfl ?_ | refine sm_get_p2n (by decide) (by decide) rfl ?_)) ?_
  refine Bod.go dc_126_185 rfl ?_
  exact hB _ (by repeat (first | exact q0 | exact sm_get_p1 | exact sm_get_p2e | refine sm_get_p1m (by decide) (by decide) ?_ | refine sm_get_p1n (by decide) rfl ?_ | refine sm_get_p2n (by decide) (by decide) rfl ?_)) (by repeat (first | exact q0 | exact sm_get_p1 | exact sm_get_p2e | refine sm_get_p1m (by decide) (by decide) ?_ | refine sm_get_p1n (by decide) rfl ?_ | refine sm_get_p2n (by decide) (by decide) rfl ?_)) (by repeat (first | exact q0 | exact sm_get_p1 | exact sm_get_p2e | refine sm_get_p1m (by decide) (by decide) ?_ | refine sm_get_p1n (by decide) rfl ?_ | refine sm_get_p2n (by decide) (by decide) rfl ?_)) (by repeat (first | exact q0 | exact sm_get_p1 | exact sm_get_p2e | refine sm_get_p1m (by decide) (by decide) ?_ | refine sm_get_p1n (by decide) rfl ?_ | refine sm_get_p2n (by decide) (by decide) rfl ?_))
theorem mPfL_4 {d : Nat} {S Sf : cS} {v : Option Value} {lv : sm_L} {ex : Int32} {tn : Nat} {S1 : cS} {a : Nat} {S2 : cS} {S3 : cS} {a1 : Nat} {S4 : cS} {a2 : Nat} {S5 : cS} {rb : Int32} (q0 : sm_get lv 0 = some (.ref 52)) (q3 : sm_get lv 3 = some (.int ex)) (q4 : sm_get lv 4 = some (.int (nI 1))) (q5 : sm_get lv 5 = some (.int (nI tn))) (mtn : tn < 1000000001) (b1 : tn < 1000000000) (ma : a < 2 ^ 20) (c1 : Ans (d + 8) 127 [.ref 52] S (some (.int (nI a))) S1) (b2 : 15 < a) (b3 : 24 < a) (b4 : 43 < a) (b5 : a = 51) (c2 : Ans (d + 8) 225 [.ref 52] S1 (some (.int (nI 1))) S2) (ma1 : a1 < 2 ^ 20) (c3 : Ans (d + 8) 226 [.ref 52] S2 (some (.int (nI a1))) S3) (ma2 : a2 < 2 ^ 20) (c4 : Ans (d + 8) 127 [.ref 52] S3 (some (.int (nI a2))) S4) (c5 : Ans (d + 8) 227 [.ref 49, .int (nI a1), .int (nI a2)] S4 (some (.int rb)) S5) (w15 : sm_c1 .ne rb true false = false) (b6 : a = 0) (hB : ∀ lv1 : sm_L, sm_get lv1 0 = some (.ref 52) → sm_get lv1 3 = some (.int rb) → sm_get lv1 4 = some (.int (nI 0)) → sm_get lv1 5 = some (.int (nI (tn + 1))) → Bod (d + 8) 126 28 lv1 [] (S5) v Sf) : Bod (d + 8) 126 28 lv [] S v Sf := by
  refine Bod.ildG dc_126_28 (by repeat (first | exact q4 | exact sm_get_p1 | exact sm_get_p2e | refine sm_get_p1m (by decide) (by decide) ?_ | refine sm_get_p1n (by decide) rfl ?_ | refine sm_get_p2n (by decide) (by decide) rfl ?_)) ?_
  refine Bod.ifF dc_126_30 rfl (k1_eq_F (k_ne 1 0 rfl rfl (by omega) (by omega) (by omega))) ?_
  refine Bod.ildG dc_126_33 (by repeat (first | exact q5 | exact sm_get_p1 | exact sm_get_p2e | refine sm_get_p1m (by decide) (by decide) ?_ | refine sm_get_p1n (by decide) rfl ?_ | refine sm_get_p2n (by decide) (by decide) rfl ?_)) ?_
  refine Bod.ldcN 1000000000 (by decide) dc_126_35 ci_126_81 ?_
  refine Bod.icF dc_126_37 rfl (k2_ge_F tn 1000000000 rfl rfl (by omega) (by omega)) ?_
  refine Bod.aldnG dc_126_40 (by repeat (first | exact q0 | exact sm_get_p1 | exact sm_get_p2e | refine sm_get_p1m (by decide) (by decide) ?_ | refine sm_get_p1n (by decide) rfl ?_ | refine sm_get_p2n (by decide) (by decide) rfl ?_)) ?_
  refine Bod.virt (r := []) dc_126_41 kr_126_82 ⟨Or.inl rfl, ow_127, cl_4⟩ (by rw [np_127]; rfl) (by rw [np_127]; rfl) (ob_of (mk_52 _)) (Nat.le_of_ble_eq_true rfl) (c1  ) ?_
  show Bod _ _ _ _ [_] _ _ _
  refine Bod.ist dc_126_44 (by rw [ml_126]; exact Nat.le_of_ble_eq_true rfl) ?_
  refine Bod.ildG dc_126_46 (by repeat (first | exact q0 | exact sm_get_p1 | exact sm_get_p2e | refine sm_get_p1m (by decide) (by decide) ?_ | refine sm_get_p1n (by decide) rfl ?_ | refine sm_get_p2n (by decide) (by decide) rfl ?_)) ?_
  refine Bod.bip 15 (by decide) dc_126_48 ?_
  refine Bod.icT dc_126_50 rfl (k2_gt_T a 15 rfl rfl (by omega) (by omega)) ?_
  refine Bod.ildG dc_126_63 (by repeat (first | exact q0 | exact sm_get_p1 | exact sm_get_p2e | refine sm_get_p1m (by decide) (by decide) ?_ | refine sm_get_p1n (by decide) rfl ?_ | refine sm_get_p2n (by decide) (by decide) rfl ?_)) ?_
  refine Bod.bip 24 (by decide) dc_126_65 ?_
  refine Bod.icT dc_126_67 rfl (k2_gt_T a 24 rfl rfl (by omega) (by omega)) ?_
  refine Bod.ildG dc_126_80 (by repeat (first | exact q0 | exact sm_get_p1 | exact sm_get_p2e | refine sm_get_p1m (by decide) (by decide) ?_ | refine sm_get_p1n (by decide) rfl ?_ | refine sm_get_p2n (by decide) (by decide) rfl ?_)) ?_
  refine Bod.bip 43 (by decide) dc_126_82 ?_
  refine Bod.icT dc_126_84 rfl (k2_gt_T a 43 rfl rfl (by omega) (by omega)) ?_
  refine Bod.ildG dc_126_100 (by repeat (first | exact q0 | exact sm_get_p1 | exact sm_get_p2e | refine sm_get_p1m (by decide) (by decide) ?_ | refine sm_get_p1n (by decide) rfl ?_ | refine sm_get_p2n (by decide) (by decide) rfl ?_)) ?_
  refine Bod.bip 51 (by decide) dc_126_102 ?_
  refine Bod.icT dc_126_104 rfl (k2_eq_T (k_eq a 51 rfl rfl (by omega))) ?_
  refine Bod.aldnG dc_126_124 (by repeat (first | exact q0 | exact sm_get_p1 | exact sm_get_p2e | refine sm_get_p1m (by decide) (by decide) ?_ | refine sm_get_p1n (by decide) rfl ?_ | refine sm_get_p2n (by decide) (by decide) rfl ?_)) ?_
  refine Bod.virt (r := []) dc_126_125 kr_126_101 ⟨Or.inl rfl, ow_225, cl_4⟩ (by rw [np_225]; rfl) (by rw [np_225]; rfl) (ob_of (mk_52 _)) (Nat.le_of_ble_eq_true rfl) (c2  ) ?_
  show Bod _ _ _ _ [_] _ _ _
  refine Bod.ifF dc_126_128 rfl (k1_eq_F (k_ne 1 0 rfl rfl (by omega) (by omega) (by omega))) ?_
  refine Bod.aldnG dc_126_131 (by repeat (first | exact q0 | exact sm_get_p1 | exact sm_get_p2e | refine sm_get_p1m (by decide) (by decide) ?_ | refine sm_get_p1n (by decide) rfl ?_ | refine sm_get_p2n (by decide) (by decide) rfl ?_)) ?_
  refine Bod.get dc_126_132 fr_126_27 (mk_52 _) rfl ?_
  refine Bod.aldnG dc_126_135 (by repeat (first | exact q0 | exact sm_get_p1 | exact sm_get_p2e | refine sm_get_p1m (by decide) (by decide) ?_ | refine sm_get_p1n (by decide) rfl ?_ | refine sm_get_p2n (by decide) (by decide) rfl ?_)) ?_
  refine Bod.virt (r := [_]) dc_126_136 kr_126_105 ⟨Or.inl rfl, ow_226, cl_4⟩ (by rw [np_226]; rfl) (by rw [np_226]; rfl) (ob_of (mk_52 _)) (Nat.le_of_ble_eq_true rfl) (c3  ) ?_
  show Bod _ _ _ _ [_, _] _ _ _
  refine Bod.aldnG dc_126_139 (by repeat (first | exact q0 | exact sm_get_p1 | exact sm_get_p2e | refine sm_get_p1m (by decide) (by decide) ?_ | refine sm_get_p1n (by decide) rfl ?_ | refine sm_get_p2n (by decide) (by decide) rfl ?_)) ?_
  refine Bod.virt (r := [_, _]) dc_126_140 kr_126_82 ⟨Or.inl rfl, ow_127, cl_4⟩ (by rw [np_127]; rfl) (by rw [np_127]; rfl) (ob_of (mk_52 _)) (Nat.le_of_ble_eq_true rfl) (c4  ) ?_
  show Bod _ _ _ _ [_, _, _] _ _ _
  refine Bod.virt (r := []) dc_126_143 kr_126_108 ⟨Or.inr rfl, ow_227, cl_0⟩ (by rw [np_227]; rfl) (by rw [np_227]; rfl) (ob_of (mk_49 _)) (Nat.le_of_ble_eq_true rfl) (c5  ) ?_
  show Bod _ _ _ _ [_] _ _ _
  refine Bod.go dc_126_146 rfl ?_
  refine Bod.istn dc_126_157 (by rw [ml_126]; exact Nat.le_of_ble_eq_true rfl) ?_
  refine Bod.ildnG dc_126_158 (by repeat (first | exact q0 | exact sm_get_p1 | exact sm_get_p2e | refine sm_get_p1m (by decide) (by decide) ?_ | refine sm_get_p1n (by decide) rfl ?_ | refine sm_get_p2n (by decide) (by decide) rfl ?_)) ?_
  refine Bod.ifF dc_126_159 rfl w15 ?_
  refine Bod.ildG dc_126_162 (by repeat (first | exact q0 | exact sm_get_p1 | exact sm_get_p2e | refine sm_get_p1m (by decide) (by decide) ?_ | refine sm_get_p1n (by decide) rfl ?_ | refine sm_get_p2n (by decide) (by decide) rfl ?_)) ?_
  refine Bod.ifT dc_126_164 rfl (k1_eq_T (k_eq a 0 rfl rfl (by omega))) ?_
  refine Bod.ic 0 (by decide) dc_126_171 ?_
  refine Bod.go dc_126_172 rfl ?_
  refine Bod.ist dc_126_180 (by rw [ml_126]; exact Nat.le_of_ble_eq_true rfl) ?_
  refine Bod.incN (tn + 1) (by rw [kc_1, nI_add]) dc_126_182 (by rw [ml_126]; exact Nat.le_of_ble_eq_true rfl) (by repeat (first | exact q5 | exact sm_get_p1 | exact sm_get_p2e | refine sm_get_p1m (by decide) (by decide) ?_ | refine sm_get_p1n (by decide) rfl ?_ | refine sm_get_p2n (by decide) (by decide) rfl ?_)) ?_
  refine Bod.go dc_126_185 rfl ?_
  exact hB _ (by repeat (first | exact q0 | exact sm_get_p1 | exact sm_get_p2e | refine sm_get_p1m (by decide) (by decide) ?_ | refine sm_get_p1n (by decide) rfl ?_ | refine sm_get_p2n (by decide) (by decide) rfl ?_)) (by repeat (first | exact q0 | exact sm_get_p1 | exact sm_get_p2e | refine sm_get_p1m (by decide) (by decide) ?_ | refine sm_get_p1n (by decide) rfl ?_ | refine sm_get_p2n (by decide) (by decide) rfl ?_)) (by repeat (first | exact q0 | exact sm_get_p1 | exact sm_get_p2e | refine sm_get_p1m (by decide) (by decide) ?_ | refine sm_get_p1n (by decide) rfl ?_ | refine sm_get_p2n (by decide) (by decide) rfl ?_)) (by repeat (first | exact q0 | exact sm_get_p1 | exact sm_get_p2e | refine sm_get_p1m (by decide) (by decide) ?_ | refine sm_get_p1n (by decide) rfl ?_ | refine sm_get_p2n (by decide) (by decide) rfl ?_))
theorem mPfL_5 {d : Nat} {S Sf : cS} {v : Option Value} {lv : sm_L} {ex : Int32} {tn : Nat} {S1 : cS} {a : Nat} {S2 : cS} {S3 : cS} {a1 : Nat} {S4 : cS} {a2 : Nat} {S5 : cS} {rb : Int32} (q0 : sm_get lv 0 = some (.ref 52)) (q3 : sm_get lv 3 = some (.int ex)) (q4 : sm_get lv 4 = some (.int (nI 1))) (q5 : sm_get lv 5 = some (.int (nI tn))) (mtn : tn < 1000000001) (b1 : tn < 1000000000) (ma : a < 2 ^ 20) (c1 : Ans (d + 8) 127 [.ref 52] S (some (.int (nI a))) S1) (b2 : 15 < a) (b3 : 24 < a) (b4 : 43 < a) (b5 : a = 51) (c2 : Ans (d + 8) 225 [.ref 52] S1 (some (.int (nI 1))) S2) (ma1 : a1 < 2 ^ 20) (c3 : Ans (d + 8) 226 [.ref 52] S2 (some (.int (nI a1))) S3) (ma2 : a2 < 2 ^ 20) (c4 : Ans (d + 8) 127 [.ref 52] S3 (some (.int (nI a2))) S4) (c5 : Ans (d + 8) 227 [.ref 49, .int (nI a1), .int (nI a2)] S4 (some (.int rb)) S5) (w15 : sm_c1 .ne rb true false = false) (b6 : a ≠ 0) (hB : ∀ lv1 : sm_L, sm_get lv1 0 = some (.ref 52) → sm_get lv1 3 = some (.int rb) → sm_get lv1 4 = some (.int (nI 1)) → sm_get lv1 5 = some (.int (nI (tn + 1))) → Bod (d + 8) 126 28 lv1 [] (S5) v Sf) : Bod (d + 8) 126 28 lv [] S v Sf := by
  refine Bod.ildG dc_126_28 (by repeat (first | exact q4 | exact sm_get_p1 | exact sm_get_p2e | refine sm_get_p1m (by decide) (by decide) ?_ | refine sm_get_p1n (by decide) rfl ?_ | refine sm_get_p2n (by decide) (by decide) rfl ?_)) ?_
  refine Bod.ifF dc_126_30 rfl (k1_eq_F (k_ne 1 0 rfl rfl (by omega) (by omega) (by omega))) ?_
  refine Bod.ildG dc_126_33 (by repeat (first | exact q5 | exact sm_get_p1 | exact sm_get_p2e | refine sm_get_p1m (by decide) (by decide) ?_ | refine sm_get_p1n (by decide) rfl ?_ | refine sm_get_p2n (by decide) (by decide) rfl ?_)) ?_
  refine Bod.ldcN 1000000000 (by decide) dc_126_35 ci_126_81 ?_
  refine Bod.icF dc_126_37 rfl (k2_ge_F tn 1000000000 rfl rfl (by omega) (by omega)) ?_
  refine Bod.aldnG dc_126_40 (by repeat (first | exact q0 | exact sm_get_p1 | exact sm_get_p2e | refine sm_get_p1m (by decide) (by decide) ?_ | refine sm_get_p1n (by decide) rfl ?_ | refine sm_get_p2n (by decide) (by decide) rfl ?_)) ?_
  refine Bod.virt (r := []) dc_126_41 kr_126_82 ⟨Or.inl rfl, ow_127, cl_4⟩ (by rw [np_127]; rfl) (by rw [np_127]; rfl) (ob_of (mk_52 _)) (Nat.le_of_ble_eq_true rfl) (c1  ) ?_
  show Bod _ _ _ _ [_] _ _ _
  refine Bod.ist dc_126_44 (by rw [ml_126]; exact Nat.le_of_ble_eq_true rfl) ?_
  refine Bod.ildG dc_126_46 (by repeat (first | exact q0 | exact sm_get_p1 | exact sm_get_p2e | refine sm_get_p1m (by decide) (by decide) ?_ | refine sm_get_p1n (by decide) rfl ?_ | refine sm_get_p2n (by decide) (by decide) rfl ?_)) ?_
  refine Bod.bip 15 (by decide) dc_126_48 ?_
  refine Bod.icT dc_126_50 rfl (k2_gt_T a 15 rfl rfl (by omega) (by omega)) ?_
  refine Bod.ildG dc_126_63 (by repeat (first | exact q0 | exact sm_get_p1 | exact sm_get_p2e | refine sm_get_p1m (by decide) (by decide) ?_ | refine sm_get_p1n (by decide) rfl ?_ | refine sm_get_p2n (by decide) (by decide) rfl ?_)) ?_
  refine Bod.bip 24 (by decide) dc_126_65 ?_
  refine Bod.icT dc_126_67 rfl (k2_gt_T a 24 rfl rfl (by omega) (by omega)) ?_
  refine Bod.ildG dc_126_80 (by repeat (first | exact q0 | exact sm_get_p1 | exact sm_get_p2e | refine sm_get_p1m (by decide) (by decide) ?_ | refine sm_get_p1n (by decide) rfl ?_ | refine sm_get_p2n (by decide) (by decide) rfl ?_)) ?_
  refine Bod.bip 43 (by decide) dc_126_82 ?_
  refine Bod.icT dc_126_84 rfl (k2_gt_T a 43 rfl rfl (by omega) (by omega)) ?_
  refine Bod.ildG dc_126_100 (by repeat (first | exact q0 | exact sm_get_p1 | exact sm_get_p2e | refine sm_get_p1m (by decide) (by decide) ?_ | refine sm_get_p1n (by decide) rfl ?_ | refine sm_get_p2n (by decide) (by decide) rfl ?_)) ?_
  refine Bod.bip 51 (by decide) dc_126_102 ?_
  refine Bod.icT dc_126_104 rfl (k2_eq_T (k_eq a 51 rfl rfl (by omega))) ?_
  refine Bod.aldnG dc_126_124 (by repeat (first | exact q0 | exact sm_get_p1 | exact sm_get_p2e | refine sm_get_p1m (by decide) (by decide) ?_ | refine sm_get_p1n (by decide) rfl ?_ | refine sm_get_p2n (by decide) (by decide) rfl ?_)) ?_
  refine Bod.virt (r := []) dc_126_125 kr_126_101 ⟨Or.inl rfl, ow_225, cl_4⟩ (by rw [np_225]; rfl) (by rw [np_225]; rfl) (ob_of (mk_52 _)) (Nat.le_of_ble_eq_true rfl) (c2  ) ?_
  show Bod _ _ _ _ [_] _ _ _
  refine Bod.ifF dc_126_128 rfl (k1_eq_F (k_ne 1 0 rfl rfl (by omega) (by omega) (by omega))) ?_
  refine Bod.aldnG dc_126_131 (by repeat (first | exact q0 | exact sm_get_p1 | exact sm_get_p2e | refine sm_get_p1m (by decide) (by decide) ?_ | refine sm_get_p1n (by decide) rfl ?_ | refine sm_get_p2n (by decide) (by decide) rfl ?_)) ?_
  refine Bod.get dc_126_132 fr_126_27 (mk_52 _) rfl ?_
  refine Bod.aldnG dc_126_135 (by repeat (first | exact q0 | exact sm_get_p1 | exact sm_get_p2e | refine sm_get_p1m (by decide) (by decide) ?_ | refine sm_get_p1n (by decide) rfl ?_ | refine sm_get_p2n (by decide) (by decide) rfl ?_)) ?_
  refine Bod.virt (r := [_]) dc_126_136 kr_126_105 ⟨Or.inl rfl, ow_226, cl_4⟩ (by rw [np_226]; rfl) (by rw [np_226]; rfl) (ob_of (mk_52 _)) (Nat.le_of_ble_eq_true rfl) (c3  ) ?_
  show Bod _ _ _ _ [_, _] _ _ _
  refine Bod.aldnG dc_126_139 (by repeat (first | exact q0 | exact sm_get_p1 | exact sm_get_p2e | refine sm_get_p1m (by decide) (by decide) ?_ | refine sm_get_p1n (by decide) rfl ?_ | refine sm_get_p2n (by decide) (by decide) rfl ?_)) ?_
  refine Bod.virt (r := [_, _]) dc_126_140 kr_126_82 ⟨Or.inl rfl, ow_127, cl_4⟩ (by rw [np_127]; rfl) (by rw [np_127]; rfl) (ob_of (mk_52 _)) (Nat.le_of_ble_eq_true rfl) (c4  ) ?_
  show Bod _ _ _ _ [_, _, _] _ _ _
  refine Bod.virt (r := []) dc_126_143 kr_126_108 ⟨Or.inr rfl, ow_227, cl_0⟩ (by rw [np_227]; rfl) (by rw [np_227]; rfl) (ob_of (mk_49 _)) (Nat.le_of_ble_eq_true rfl) (c5  ) ?_
  show Bod _ _ _ _ [_] _ _ _
  refine Bod.go dc_126_146 rfl ?_
  refine Bod.istn dc_126_157 (by rw [ml_126]; exact Nat.le_of_ble_eq_true rfl) ?_
  refine Bod.ildnG dc_126_158 (by repeat (first | exact q0 | exact sm_get_p1 | exact sm_get_p2e | refine sm_get_p1m (by decide) (by decide) ?_ | refine sm_get_p1n (by decide) rfl ?_ | refine sm_get_p2n (by decide) (by decide) rfl ?_)) ?_
  refine Bod.ifF dc_126_159 rfl w15 ?_
  refine Bod.ildG dc_126_162 (by repeat (first | exact q0 | exact sm_get_p1 | exact sm_get_p2e | refine sm_get_p1m (by decide) (by decide) ?_ | refine sm_get_p1n (by decide) rfl ?_ | refine sm_get_p2n (by decide) (by decide) rfl ?_)) ?_
  refine Bod.ifF dc_126_164 rfl (k1_eq_F (k_ne a 0 rfl rfl (by omega) (by omega) (by omega))) ?_
  refine Bod.ic 1 (by decide) dc_126_167 ?_
  refine Bod.go dc_126_168 rfl ?_
  refine Bod.ist dc_126_180 (by rw [ml_126]; exact Nat.le_of_ble_eq_true rfl) ?_
  refine Bod.incN (tn + 1) (by rw [kc_1, nI_add]) dc_126_182 (by rw [ml_126]; exact Nat.le_of_ble_eq_true rfl) (by repeat (first | exact q5 | exact sm_get_p1 | exact sm_get_p2e | refine sm_get_p1m (by decide) (by decide) ?_ | refine sm_get_p1n (by decide) rfl ?_ | refine sm_get_p2n (by decide) (by decide) rfl ?_)) ?_
  refine Bod.go dc_126_185 rfl ?_
  exact hB _ (by repeat (first | exact q0 | exact sm_get_p1 | exact sm_get_p2e | refine sm_get_p1m (by decide) (by decide) ?_ | refine sm_get_p1n (by decide) rfl ?_ | refine sm_get_p2n (by decide) (by decide) rfl ?_)) (by repeat (first | exact q0 | exact sm_get_p1 | exact sm_get_p2e | refine sm_get_p1m (by decide) (by decide) ?_ | refine sm_get_p1n (by decide) rfl ?_ | refine sm_get_p2n (by decide) (by decide) rfl ?_)) (by repeat (first | exact q0 | exact sm_get_p1 | exact sm_get_p2e | refine sm_get_p1m (by decide) (by decide) ?_ | refine sm_get_p1n (by decide) rfl ?_ | refine sm_get_p2n (by decide) (by decide) rfl ?_)) (by repeat (first | exact q0 | exact sm_get_p1 | exact sm_get_p2e | refine sm_get_p1m (by decide) (by decide) ?_ | refine sm_get_p1n (by decide) rfl ?_ | refine sm_get_p2n (by decide) (by decide) rfl ?_))
theorem mPfL_6 {d : Nat} {S Sf : cS} {v : Option Value} {lv : sm_L} {ex : Int32} {tn : Nat} {S1 : cS} {a : Nat} {S2 : cS} {S3 : cS} {a1 : Nat} {S4 : cS} {rb : Int32} {S5 : cS} (q0 : sm_get lv 0 = some (.ref 52)) (q3 : sm_get lv 3 = some (.int ex)) (q4 : sm_get lv 4 = some (.int (nI 1))) (q5 : sm_get lv 5 = some (.int (nI tn))) (mtn : tn < 1000000001) (b1 : tn < 1000000000) (ma : a < 2 ^ 20) (c1 : Ans (d + 8) 127 [.ref 52] S (some (.int (nI a))) S1) (b2 : 15 < a) (b3 : 24 < a) (b4 : 43 < a) (b5 : a = 51) (c2 : Ans (d + 8) 225 [.ref 52] S1 (some (.int (nI 0))) S2) (ma1 : a1 < 2 ^ 20) (c3 : Ans (d + 8) 127 [.ref 52] S2 (some (.int (nI a1))) S3) (c4 : Ans (d + 8) 253 [.ref 52, .int (nI a1)] S3 (some (.int rb)) S4) (w13 : sm_c1 .ne rb true false = true) (c5 : Ans (d + 8) 266 [.ref 52, .int rb] S4 (some (.int (nI 1))) S5) (hB : ∀ lv1 : sm_L, sm_get lv1 0 = some (.ref 52) → sm_get lv1 3 = some (.int rb) → sm_get lv1 4 = some (.int (nI 1)) → sm_get lv1 5 = some (.int (nI (tn + 1))) → Bod (d + 8) 126 28 lv1 [] (S5) v Sf) : Bod (d + 8) 126 28 lv [] S v Sf := by
  refine Bod.ildG dc_126_28 (by repeat (first | exact q4 | exact sm_get_p1 | exact sm_get_p2e | refine sm_get_p1m (by decide) (by decide) ?_ | refine sm_get_p1n (by decide) rfl ?_ | refine sm_get_p2n (by decide) (by decide) rfl ?_)) ?_
  refine Bod.ifF dc_126_30 rfl (k1_eq_F (k_ne 1 0 rfl rfl (by omega) (by omega) (by omega))) ?_
  refine Bod.ildG dc_126_33 (by repeat (first | exact q5 | exact sm_get_p1 | exact sm_get_p2e | refine sm_get_p1m (by decide) (by decide) ?_ | refine sm_get_p1n (by decide) rfl ?_ | refine sm_get_p2n (by decide) (by decide) rfl ?_)) ?_
  refine Bod.ldcN 1000000000 (by decide) dc_126_35 ci_126_81 ?_
  refine Bod.icF dc_126_37 rfl (k2_ge_F tn 1000000000 rfl rfl (by omega) (by omega)) ?_
  refine Bod.aldnG dc_126_40 (by repeat (first | exact q0 | exact sm_get_p1 | exact sm_get_p2e | refine sm_get_p1m (by decide) (by decide) ?_ | refine sm_get_p1n (by decide) rfl ?_ | refine sm_get_p2n (by decide) (by decide) rfl ?_)) ?_
  refine Bod.virt (r := []) dc_126_41 kr_126_82 ⟨Or.inl rfl, ow_127, cl_4⟩ (by rw [np_127]; rfl) (by rw [np_127]; rfl) (ob_of (mk_52 _)) (Nat.le_of_ble_eq_true rfl) (c1  ) ?_
  show Bod _ _ _ _ [_] _ _ _
  refine Bod.ist dc_126_44 (by rw [ml_126]; exact Nat.le_of_ble_eq_true rfl) ?_
  refine Bod.ildG dc_126_46 (by repeat (first | exact q0 | exact sm_get_p1 | exact sm_get_p2e | refine sm_get_p1m (by decide) (by decide) ?_ | refine sm_get_p1n (by decide) rfl ?_ | refine sm_get_p2n (by decide) (by decide) rfl ?_)) ?_
  refine Bod.bip 15 (by decide) dc_126_48 ?_
  refine Bod.icT dc_126_50 rfl (k2_gt_T a 15 rfl rfl (by omega) (by omega)) ?_
  refine Bod.ildG dc_126_63 (by repeat (first | exact q0 | exact sm_get_p1 | exact sm_get_p2e | refine sm_get_p1m (by decide) (by decide) ?_ | refine sm_get_p1n (by decide) rfl ?_ | refine sm_get_p2n (by decide) (by decide) rfl ?_)) ?_
  refine Bod.bip 24 (by decide) dc_126_65 ?_
  refine Bod.icT dc_126_67 rfl (k2_gt_T a 24 rfl rfl (by omega) (by omega)) ?_
  refine Bod.ildG dc_126_80 (by repeat (first | exact q0 | exact sm_get_p1 | exact sm_get_p2e | refine sm_get_p1m (by decide) (by decide) ?_ | refine sm_get_p1n (by decide) rfl ?_ | refine sm_get_p2n (by decide) (by decide) rfl ?_)) ?_
  refine Bod.bip 43 (by decide) dc_126_82 ?_
  refine Bod.icT dc_126_84 rfl (k2_gt_T a 43 rfl rfl (by omega) (by omega)) ?_
  refine Bod.ildG dc_126_100 (by repeat (first | exact q0 | exact sm_get_p1 | exact sm_get_p2e | refine sm_get_p1m (by decide) (by decide) ?_ | refine sm_get_p1n (by decide) rfl ?_ | refine sm_get_p2n (by decide) (by decide) rfl ?_)) ?_
  refine Bod.bip 51 (by decide) dc_126_102 ?_
  refine Bod.icT dc_126_104 rfl (k2_eq_T (k_eq a 51 rfl rfl (by omega))) ?_
  refine Bod.aldnG dc_126_124 (by repeat (first | exact q0 | exact sm_get_p1 | exact sm_get_p2e | refine sm_get_p1m (by decide) (by decide) ?_ | refine sm_get_p1n (by decide) rfl ?_ | refine sm_get_p2n (by decide) (by decide) rfl ?_)) ?_
  refine Bod.virt (r := []) dc_126_125 kr_126_101 ⟨Or.inl rfl, ow_225, cl_4⟩ (by rw [np_225]; rfl) (by rw [np_225]; rfl) (ob_of (mk_52 _)) (Nat.le_of_ble_eq_true rfl) (c2  ) ?_
  show Bod _ _ _ _ [_] _ _ _
  refine Bod.ifT dc_126_128 rfl (k1_eq_T (k_eq 0 0 rfl rfl (by omega))) ?_
  refine Bod.aldnG dc_126_149 (by repeat (first | exact q0 | exact sm_get_p1 | exact sm_get_p2e | refine sm_get_p1m (by decide) (by decide) ?_ | refine sm_get_p1n (by decide) rfl ?_ | refine sm_get_p2n (by decide) (by decide) rfl ?_)) ?_
  refine Bod.aldnG dc_126_150 (by repeat (first | exact q0 | exact sm_get_p1 | exact sm_get_p2e | refine sm_get_p1m (by decide) (by decide) ?_ | refine sm_get_p1n (by decide) rfl ?_ | refine sm_get_p2n (by decide) (by decide) rfl ?_)) ?_
  refine Bod.virt (r := [_]) dc_126_151 kr_126_82 ⟨Or.inl rfl, ow_127, cl_4⟩ (by rw [np_127]; rfl) (by rw [np_127]; rfl) (ob_of (mk_52 _)) (Nat.le_of_ble_eq_true rfl) (c3  ) ?_
  show Bod _ _ _ _ [_, _] _ _ _
  refine Bod.virt (r := []) dc_126_154 kr_126_111 ⟨Or.inl rfl, ow_253, cl_4⟩ (by rw [np_253]; rfl) (by rw [np_253]; rfl) (ob_of (mk_52 _)) (Nat.le_of_ble_eq_true rfl) (c4  ) ?_
  show Bod _ _ _ _ [_] _ _ _
  refine Bod.istn dc_126_157 (by rw [ml_126]; exact Nat.le_of_ble_eq_true rfl) ?_
  refine Bod.ildnG dc_126_158 (by repeat (first | exact q0 | exact sm_get_p1 | exact sm_get_p2e | refine sm_get_p1m (by decide) (by decide) ?_ | refine sm_get_p1n (by decide) rfl ?_ | refine sm_get_p2n (by decide) (by decide) rfl ?_)) ?_
  refine Bod.ifT dc_126_159 rfl w13 ?_
  refine Bod.aldnG dc_126_175 (by repeat (first | exact q0 | exact sm_get_p1 | exact sm_get_p2e | refine sm_get_p1m (by decide) (by decide) ?_ | refine sm_get_p1n (by decide) rfl ?_ | refine sm_get_p2n (by decide) (by decide) rfl ?_)) ?_
  refine Bod.ildnG dc_126_176 (by repeat (first | exact q0 | exact sm_get_p1 | exact sm_get_p2e | refine sm_get_p1m (by decide) (by decide) ?_ | refine sm_get_p1n (by decide) rfl ?_ | refine sm_get_p2n (by decide) (by decide) rfl ?_)) ?_
  refine Bod.virt (r := []) dc_126_177 kr_126_114 ⟨Or.inl rfl, ow_266, cl_4⟩ (by rw [np_266]; rfl) (by rw [np_266]; rfl) (ob_of (mk_52 _)) (Nat.le_of_ble_eq_true rfl) (c5  ) ?_
  show Bod _ _ _ _ [_] _ _ _
  refine Bod.ist dc_126_180 (by rw [ml_126]; exact Nat.le_of_ble_eq_true rfl) ?_
  refine Bod.incN (tn + 1) (by rw [kc_1, nI_add]) dc_126_182 (by rw [ml_126]; exact Nat.le_of_ble_eq_true rfl) (by repeat (first | exact q5 | exact sm_get_p1 | exact sm_get_p2e | refine sm_get_p1m (by decide) (by decide) ?_ | refine sm_get_p1n (by decide) rfl ?_ | refine sm_get_p2n (by decide) (by decide) rfl ?_)) ?_
  refine Bod.go dc_126_185 rfl ?_
  exact hB _ (by repeat (first | exact q0 | exact sm_get_p1 | exact sm_get_p2e | refine sm_get_p1m (by decide) (by decide) ?_ | refine sm_get_p1n (by decide) rfl ?_ | refine sm_get_p2n (by decide) (by decide) rfl ?_)) (by repeat (first | exact q0 | exact sm_get_p1 | exact sm_get_p2e | refine sm_get_p1m (by decide) (by decide) ?_ | refine sm_get_p1n (by decide) rfl ?_ | refine sm_get_p2n (by decide) (by decide) rfl ?_)) (by repeat (first | exact q0 | exact sm_get_p1 | exact sm_get_p2e | refine sm_get_p1m (by decide) (by decide) ?_ | refine sm_get_p1n (by decide) rfl ?_ | refine sm_get_p2n (by decide) (by decide) rfl ?_)) (by repeat (first | exact q0 | exact sm_get_p1 | exact sm_get_p2e | refine sm_get_p1m (by decide) (by decide) ?_ | refine sm_get_p1n (by decide) rfl ?_ | refine sm_get_p2n (by decide) (by decide) rfl ?_))
theorem mPfL_7 {d : Nat} {S Sf : cS} {v : Option Value} {lv : sm_L} {ex : Int32} {tn : Nat} {S1 : cS} {a : Nat} {S2 : cS} {S3 : cS} {a1 : Nat} {S4 : cS} {rb : Int32} {S5 : cS} (q0 : sm_get lv 0 = some (.ref 52)) (q3 : sm_get lv 3 = some (.int ex)) (q4 : sm_get lv 4 = some (.int (nI 1))) (q5 : sm_get lv 5 = some (.int (nI tn))) (mtn : tn < 1000000001) (b1 : tn < 1000000000) (ma : a < 2 ^ 20) (c1 : Ans (d + 8) 127 [.ref 52] S (some (.int (nI a))) S1) (b2 : 15 < a) (b3 : 24 < a) (b4 : 43 < a) (b5 : a = 51) (c2 : Ans (d + 8) 225 [.ref 52] S1 (some (.int (nI 0))) S2) (ma1 : a1 < 2 ^ 20) (c3 : Ans (d + 8) 127 [.ref 52] S2 (some (.int (nI a1))) S3) (c4 : Ans (d + 8) 253 [.ref 52, .int (nI a1)] S3 (some (.int rb)) S4) (w13 : sm_c1 .ne rb true false = true) (c5 : Ans (d + 8) 266 [.ref 52, .int rb] S4 (some (.int (nI 0))) S5) (hB : ∀ lv1 : sm_L, sm_get lv1 0 = some (.ref 52) → sm_get lv1 3 = some (.int rb) → sm_get lv1 4 = some (.int (nI 0)) → sm_get lv1 5 = some (.int (nI (tn + 1))) → Bod (d + 8) 126 28 lv1 [] (S5) v Sf) : Bod (d + 8) 126 28 lv [] S v Sf := by
  refine Bod.ildG dc_126_28 (by repeat (first | exact q4 | exact sm_get_p1 | exact sm_get_p2e | refine sm_get_p1m (by decide) (by decide) ?_ | refine sm_get_p1n (by decide) rfl ?_ | refine sm_get_p2n (by decide) (by decide) rfl ?_)) ?_
  refine Bod.ifF dc_126_30 rfl (k1_eq_F (k_ne 1 0 rfl rfl (by omega) (by omega) (by omega))) ?_
  refine Bod.ildG dc_126_33 (by repeat (first | exact q5 | exact sm_get_p1 | exact sm_get_p2e | refine sm_get_p1m (by decide) (by decide) ?_ | refine sm_get_p1n (by decide) rfl ?_ | refine sm_get_p2n (by decide) (by decide) rfl ?_)) ?_
  refine Bod.ldcN 1000000000 (by decide) dc_126_35 ci_126_81 ?_
  refine Bod.icF dc_126_37 rfl (k2_ge_F tn 1000000000 rfl rfl (by omega) (by omega)) ?_
  refine Bod.aldnG dc_126_40 (by repeat (first | exact q0 | exact sm_get_p1 | exact sm_get_p2e | refine sm_get_p1m (by decide) (by decide) ?_ | refine sm_get_p1n (by decide) rfl ?_ | refine sm_get_p2n (by decide) (by decide) rfl ?_)) ?_
  refine Bod.virt (r := []) dc_126_41 kr_126_82 ⟨Or.inl rfl, ow_127, cl_4⟩ (by rw [np_127]; rfl) (by rw [np_127]; rfl) (ob_of (mk_52 _)) (Nat.le_of_ble_eq_true rfl) (c1  ) ?_
  show Bod _ _ _ _ [_] _ _ _
  refine Bod.ist dc_126_44 (by rw [ml_126]; exact Nat.le_of_ble_eq_true rfl) ?_
  refine Bod.ildG dc_126_46 (by repeat (first | exact q0 | exact sm_get_p1 | exact sm_get_p2e | refine sm_get_p1m (by decide) (by decide) ?_ | refine sm_get_p1n (by decide) rfl ?_ | refine sm_get_p2n (by decide) (by decide) rfl ?_)) ?_
  refine Bod.bip 15 (by decide) dc_126_48 ?_
  refine Bod.icT dc_126_50 rfl (k2_gt_T a 15 rfl rfl (by omega) (by omega)) ?_
  refine Bod.ildG dc_126_63 (by repeat (first | exact q0 | exact sm_get_p1 | exact sm_get_p2e | refine sm_get_p1m (by decide) (by decide) ?_ | refine sm_get_p1n (by decide) rfl ?_ | refine sm_get_p2n (by decide) (by decide) rfl ?_)) ?_
  refine Bod.bip 24 (by decide) dc_126_65 ?_
  refine Bod.icT dc_126_67 rfl (k2_gt_T a 24 rfl rfl (by omega) (by omega)) ?_
  refine Bod.ildG dc_126_80 (by repeat (first | exact q0 | exact sm_get_p1 | exact sm_get_p2e | refine sm_get_p1m (by decide) (by decide) ?_ | refine sm_get_p1n (by decide) rfl ?_ | refine sm_get_p2n (by decide) (by decide) rfl ?_)) ?_
  refine Bod.bip 43 (by decide) dc_126_82 ?_
  refine Bod.icT dc_126_84 rfl (k2_gt_T a 43 rfl rfl (by omega) (by omega)) ?_
  refine Bod.ildG dc_126_100 (by repeat (first | exact q0 | exact sm_get_p1 | exact sm_get_p2e | refine sm_get_p1m (by decide) (by decide) ?_ | refine sm_get_p1n (by decide) rfl ?_ | refine sm_get_p2n (by decide) (by decide) rfl ?_)) ?_
  refine Bod.bip 51 (by decide) dc_126_102 ?_
  refine Bod.icT dc_126_104 rfl (k2_eq_T (k_eq a 51 rfl rfl (by omega))) ?_
  refine Bod.aldnG dc_126_124 (by repeat (first | exact q0 | exact sm_get_p1 | exact sm_get_p2e | refine sm_get_p1m (by decide) (by decide) ?_ | refine sm_get_p1n (by decide) rfl ?_ | refine sm_get_p2n (by decide) (by decide) rfl ?_)) ?_
  refine Bod.virt (r := []) dc_126_125 kr_126_101 ⟨Or.inl rfl, ow_225, cl_4⟩ (by rw [np_225]; rfl) (by rw [np_225]; rfl) (ob_of (mk_52 _)) (Nat.le_of_ble_eq_true rfl) (c2  ) ?_
  show Bod _ _ _ _ [_] _ _ _
  refine Bod.ifT dc_126_128 rfl (k1_eq_T (k_eq 0 0 rfl rfl (by omega))) ?_
  refine Bod.aldnG dc_126_149 (by repeat (first | exact q0 | exact sm_get_p1 | exact sm_get_p2e | refine sm_get_p1m (by decide) (by decide) ?_ | refine sm_get_p1n (by decide) rfl ?_ | refine sm_get_p2n (by decide) (by decide) rfl ?_)) ?_
  refine Bod.aldnG dc_126_150 (by repeat (first | exact q0 | exact sm_get_p1 | exact sm_get_p2e | refine sm_get_p1m (by decide) (by decide) ?_ | refine sm_get_p1n (by decide) rfl ?_ | refine sm_get_p2n (by decide) (by decide) rfl ?_)) ?_
  refine Bod.virt (r := [_]) dc_126_151 kr_126_82 ⟨Or.inl rfl, ow_127, cl_4⟩ (by rw [np_127]; rfl) (by rw [np_127]; rfl) (ob_of (mk_52 _)) (Nat.le_of_ble_eq_true rfl) (c3  ) ?_
  show Bod _ _ _ _ [_, _] _ _ _
  refine Bod.virt (r := []) dc_126_154 kr_126_111 ⟨Or.inl rfl, ow_253, cl_4⟩ (by rw [np_253]; rfl) (by rw [np_253]; rfl) (ob_of (mk_52 _)) (Nat.le_of_ble_eq_true rfl) (c4  ) ?_
  show Bod _ _ _ _ [_] _ _ _
  refine Bod.istn dc_126_157 (by rw [ml_126]; exact Nat.le_of_ble_eq_true rfl) ?_
  refine Bod.ildnG dc_126_158 (by repeat (first | exact q0 | exact sm_get_p1 | exact sm_get_p2e | refine sm_get_p1m (by decide) (by decide) ?_ | refine sm_get_p1n (by decide) rfl ?_ | refine sm_get_p2n (by decide) (by decide) rfl ?_)) ?_
  refine Bod.ifT dc_126_159 rfl w13 ?_
  refine Bod.aldnG dc_126_175 (by repeat (first | exact q0 | exact sm_get_p1 | exact sm_get_p2e | refine sm_get_p1m (by decide) (by decide) ?_ | refine sm_get_p1n (by decide) rfl ?_ | refine sm_get_p2n (by decide) (by decide) rfl ?_)) ?_
  refine Bod.ildnG dc_126_176 (by repeat (first | exact q0 | exact sm_get_p1 | exact sm_get_p2e | refine sm_get_p1m (by decide) (by decide) ?_ | refine sm_get_p1n (by decide) rfl ?_ | refine sm_get_p2n (by decide) (by decide) rfl ?_)) ?_
  refine Bod.virt (r := []) dc_126_177 kr_126_114 ⟨Or.inl rfl, ow_266, cl_4⟩ (by rw [np_266]; rfl) (by rw [np_266]; rfl) (ob_of (mk_52 _)) (Nat.le_of_ble_eq_true rfl) (c5  ) ?_
  show Bod _ _ _ _ [_] _ _ _
  refine Bod.ist dc_126_180 (by rw [ml_126]; exact Nat.le_of_ble_eq_true rfl) ?_
  refine Bod.incN (tn + 1) (by rw [kc_1, nI_add]) dc_126_182 (by rw [ml_126]; exact Nat.le_of_ble_eq_true rfl) (by repeat (first | exact q5 | exact sm_get_p1 | exact sm_get_p2e | refine sm_get_p1m (by decide) (by decide) ?_ | refine sm_get_p1n (by decide) rfl ?_ | refine sm_get_p2n (by decide) (by decide) rfl ?_)) ?_
  refine Bod.go dc_126_185 rfl ?_
  exact hB _ (by repeat (first | exact q0 | exact sm_get_p1 | exact sm_get_p2e | refine sm_get_p1m (by decide) (by decide) ?_ | refine sm_get_p1n (by decide) rfl ?_ | refine sm_get_p2n (by decide) (by decide) rfl ?_)) (by repeat (first | exact q0 | exact sm_get_p1 | exact sm_get_p2e | refine sm_get_p1m (by decide) (by decide) ?_ | refine sm_get_p1n (by decide) rfl ?_ | refine sm_get_p2n (by decide) (by decide) rfl ?_)) (by repeat (first | exact q0 | exact sm_get_p1 | exact sm_get_p2e | refine sm_get_p1m (by decide) (by decide) ?_ | refine sm_get_p1n (by decide) rfl ?_ | refine sm_get_p2n (by decide) (by decide) rfl ?_)) (by repeat (first | exact q0 | exact sm_get_p1 | exact sm_get_p2e | refine sm_get_p1m (by decide) (by decide) ?_ | refine sm_get_p1n (by decide) rfl ?_ | refine sm_get_p2n (by decide) (by decide) rfl ?_))
theorem mPfL_8 {d : Nat} {S Sf : cS} {v : Option Value} {lv : sm_L} {ex : Int32} {tn : Nat} {S1 : cS} {a : Nat} {S2 : cS} {S3 : cS} {a1 : Nat} {S4 : cS} {rb : Int32} (q0 : sm_get lv 0 = some (.ref 52)) (q3 : sm_get lv 3 = some (.int ex)) (q4 : sm_get lv 4 = some (.int (nI 1))) (q5 : sm_get lv 5 = some (.int (nI tn))) (mtn : tn < 1000000001) (b1 : tn < 1000000000) (ma : a < 2 ^ 20) (c1 : Ans (d + 8) 127 [.ref 52] S (some (.int (nI a))) S1) (b2 : 15 < a) (b3 : 24 < a) (b4 : 43 < a) (b5 : a = 51) (c2 : Ans (d + 8) 225 [.ref 52] S1 (some (.int (nI 0))) S2) (ma1 : a1 < 2 ^ 20) (c3 : Ans (d + 8) 127 [.ref 52] S2 (some (.int (nI a1))) S3) (c4 : Ans (d + 8) 253 [.ref 52, .int (nI a1)] S3 (some (.int rb)) S4) (w13 : sm_c1 .ne rb true false = false) (b6 : a = 0) (hB : ∀ lv1 : sm_L, sm_get lv1 0 = some (.ref 52) → sm_get lv1 3 = some (.int rb) → sm_get lv1 4 = some (.int (nI 0)) → sm_get lv1 5 = some (.int (nI (tn + 1))) → Bod (d + 8) 126 28 lv1 [] (S4) v Sf) : Bod (d + 8) 126 28 lv [] S v Sf := by
  refine Bod.ildG dc_126_28 (by repeat (first | exact q4 | exact sm_get_p1 | exact sm_get_p2e | refine sm_get_p1m (by decide) (by decide) ?_ | refine sm_get_p1n (by decide) rfl ?_ | refine sm_get_p2n (by decide) (by decide) rfl ?_)) ?_
  refine Bod.ifF dc_126_30 rfl (k1_eq_F (k_ne 1 0 rfl rfl (by omega) (by omega) (by omega))) ?_
  refine Bod.ildG dc_126_33 (by repeat (first | exact q5 | exact sm_get_p1 | exact sm_get_p2e | refine sm_get_p1m (by decide) (by decide) ?_ | refine sm_get_p1n (by decide) rfl ?_ | refine sm_get_p2n (by decide) (by decide) rfl ?_)) ?_
  refine Bod.ldcN 1000000000 (by decide) dc_126_35 ci_126_81 ?_
  refine Bod.icF dc_126_37 rfl (k2_ge_F tn 1000000000 rfl rfl (by omega) (by omega)) ?_
  refine Bod.aldnG dc_126_40 (by repeat (first | exact q0 | exact sm_get_p1 | exact sm_get_p2e | refine sm_get_p1m (by decide) (by decide) ?_ | refine sm_get_p1n (by decide) rfl ?_ | refine sm_get_p2n (by decide) (by decide) rfl ?_)) ?_
  refine Bod.virt (r := []) dc_126_41 kr_126_82 ⟨Or.inl rfl, ow_127, cl_4⟩ (by rw [np_127]; rfl) (by rw [np_127]; rfl) (ob_of (mk_52 _)) (Nat.le_of_ble_eq_true rfl) (c1  ) ?_
  show Bod _ _ _ _ [_] _ _ _
  refine Bod.ist dc_126_44 (by rw [ml_126]; exact Nat.le_of_ble_eq_true rfl) ?_
  refine Bod.ildG dc_126_46 (by repeat (first | exact q0 | exact sm_get_p1 | exact sm_get_p2e | refine sm_get_p1m (by decide) (by decide) ?_ | refine sm_get_p1n (by decide) rfl ?_ | refine sm_get_p2n (by decide) (by decide) rfl ?_)) ?_
  refine Bod.bip 15 (by decide) dc_126_48 ?_
  refine Bod.icT dc_126_50 rfl (k2_gt_T a 15 rfl rfl (by omega) (by omega)) ?_
  refine Bod.ildG dc_126_63 (by repeat (first | exact q0 | exact sm_get_p1 | exact sm_get_p2e | refine sm_get_p1m (by decide) (by decide) ?_ | refine sm_get_p1n (by decide) rfl ?_ | refine sm_get_p2n (by decide) (by decide) rfl ?_)) ?_
  refine Bod.bip 24 (by decide) dc_126_65 ?_
  refine Bod.icT dc_126_67 rfl (k2_gt_T a 24 rfl rfl (by omega) (by omega)) ?_
  refine Bod.ildG dc_126_80 (by repeat (first | exact q0 | exact sm_get_p1 | exact sm_get_p2e | refine sm_get_p1m (by decide) (by decide) ?_ | refine sm_get_p1n (by decide) rfl ?_ | refine sm_get_p2n (by decide) (by decide) rfl ?_)) ?_
  refine Bod.bip 43 (by decide) dc_126_82 ?_
  refine Bod.icT dc_126_84 rfl (k2_gt_T a 43 rfl rfl (by omega) (by omega)) ?_
  refine Bod.ildG dc_126_100 (by repeat (first | exact q0 | exact sm_get_p1 | exact sm_get_p2e | refine sm_get_p1m (by decide) (by decide) ?_ | refine sm_get_p1n (by decide) rfl ?_ | refine sm_get_p2n (by decide) (by decide) rfl ?_)) ?_
  refine Bod.bip 51 (by decide) dc_126_102 ?_
  refine Bod.icT dc_126_104 rfl (k2_eq_T (k_eq a 51 rfl rfl (by omega))) ?_
  refine Bod.aldnG dc_126_124 (by repeat (first | exact q0 | exact sm_get_p1 | exact sm_get_p2e | refine sm_get_p1m (by decide) (by decide) ?_ | refine sm_get_p1n (by decide) rfl ?_ | refine sm_get_p2n (by decide) (by decide) rfl ?_)) ?_
  refine Bod.virt (r := []) dc_126_125 kr_126_101 ⟨Or.inl rfl, ow_225, cl_4⟩ (by rw [np_225]; rfl) (by rw [np_225]; rfl) (ob_of (mk_52 _)) (Nat.le_of_ble_eq_true rfl) (c2  ) ?_
  show Bod _ _ _ _ [_] _ _ _
  refine Bod.ifT dc_126_128 rfl (k1_eq_T (k_eq 0 0 rfl rfl (by omega))) ?_
  refine Bod.aldnG dc_126_149 (by repeat (first | exact q0 | exact sm_get_p1 | exact sm_get_p2e | refine sm_get_p1m (by decide) (by decide) ?_ | refine sm_get_p1n (by decide) rfl ?_ | refine sm_get_p2n (by decide) (by decide) rfl ?_)) ?_
  refine Bod.aldnG dc_126_150 (by repeat (first | exact q0 | exact sm_get_p1 | exact sm_get_p2e | refine sm_get_p1m (by decide) (by decide) ?_ | refine sm_get_p1n (by decide) rfl ?_ | refine sm_get_p2n (by decide) (by decide) rfl ?_)) ?_
  refine Bod.virt (r := [_]) dc_126_151 kr_126_82 ⟨Or.inl rfl, ow_127, cl_4⟩ (by rw [np_127]; rfl) (by rw [np_127]; rfl) (ob_of (mk_52 _)) (Nat.le_of_ble_eq_true rfl) (c3  ) ?_
  show Bod _ _ _ _ [_, _] _ _ _
  refine Bod.virt (r := []) dc_126_154 kr_126_111 ⟨Or.inl rfl, ow_253, cl_4⟩ (by rw [np_253]; rfl) (by rw [np_253]; rfl) (ob_of (mk_52 _)) (Nat.le_of_ble_eq_true rfl) (c4  ) ?_
  show Bod _ _ _ _ [_] _ _ _
  refine Bod.istn dc_126_157 (by rw [ml_126]; exact Nat.le_of_ble_eq_true rfl) ?_
  refine Bod.ildnG dc_126_158 (by repeat (first | exact q0 | exact sm_get_p1 | exact sm_get_p2e | refine sm_get_p1m (by decide) (by decide) ?_ | refine sm_get_p1n (by decide) rfl ?_ | refine sm_get_p2n (by decide) (by decide) rfl ?_)) ?_
  refine Bod.ifF dc_126_159 rfl w13 ?_
  refine Bod.ildG dc_126_162 (by repeat (first | exact q0 | exact sm_get_p1 | exact sm_get_p2e | refine sm_get_p1m (by decide) (by decide) ?_ | refine sm_get_p1n (by decide) rfl ?_ | refine sm_get_p2n (by decide) (by decide) rfl ?_)) ?_
  refine Bod.ifT dc_126_164 rfl (k1_eq_T (k_eq a 0 rfl rfl (by omega))) ?_
  refine Bod.ic 0 (by decide) dc_126_171 ?_
  refine Bod.go dc_126_172 rfl ?_
  refine Bod.ist dc_126_180 (by rw [ml_126]; exact Nat.le_of_ble_eq_true rfl) ?_
  refine Bod.incN (tn + 1) (by rw [kc_1, nI_add]) dc_126_182 (by rw [ml_126]; exact Nat.le_of_ble_eq_true rfl) (by repeat (first | exact q5 | exact sm_get_p1 | exact sm_get_p2e | refine sm_get_p1m (by decide) (by decide) ?_ | refine sm_get_p1n (by decide) rfl ?_ | refine sm_get_p2n (by decide) (by decide) rfl ?_)) ?_
  refine Bod.go dc_126_185 rfl ?_
  exact hB _ (by repeat (first | exact q0 | exact sm_get_p1 | exact sm_get_p2e | refine sm_get_p1m (by decide) (by decide) ?_ | refine sm_get_p1n (by decide) rfl ?_ | refine sm_get_p2n (by decide) (by decide) rfl ?_)) (by repeat (first | exact q0 | exact sm_get_p1 | exact sm_get_p2e | refine sm_get_p1m (by decide) (by decide) ?_ | refine sm_get_p1n (by decide) rfl ?_ | refine sm_get_p2n (by decide) (by decide) rfl ?_)) (by repeat (first | exact q0 | exact sm_get_p1 | exact sm_get_p2e | refine sm_get_p1m (by decide) (by decide) ?_ | refine sm_get_p1n (by decide) rfl ?_ | refine sm_get_p2n (by decide) (by decide) rfl ?_)) (by repeat (first | exact q0 | exact sm_get_p1 | exact sm_get_p2e | refine sm_get_p1m (by decide) (by decide) ?_ | refine sm_get_p1n (by decide) rfl ?_ | refine sm_get_p2n (by decide) (by decide) rfl ?_))
theorem mPfL_9 {d : Nat} {S Sf : cS} {v : Option Value} {lv : sm_L} {ex : Int32} {tn : Nat} {S1 : cS} {a : Nat} {S2 : cS} {S3 : cS} {a1 : Nat} {S4 : cS} {rb : Int32} (q0 : sm_get lv 0 = some (.ref 52)) (q3 : sm_get lv 3 = some (.int ex)) (q4 : sm_get lv 4 = some (.int (nI 1))) (q5 : sm_get lv 5 = some (.int (nI tn))) (mtn : tn < 1000000001) (b1 : tn < 1000000000) (ma : a < 2 ^ 20) (c1 : Ans (d + 8) 127 [.ref 52] S (some (.int (nI a))) S1) (b2 : 15 < a) (b3 : 24 < a) (b4 : 43 < a) (b5 : a = 51) (c2 : Ans (d + 8) 225 [.ref 52] S1 (some (.int (nI 0))) S2) (ma1 : a1 < 2 ^ 20) (c3 : Ans (d + 8) 127 [.ref 52] S2 (some (.int (nI a1))) S3) (c4 : Ans (d + 8) 253 [.ref 52, .int (nI a1)] S3 (some (.int rb)) S4) (w13 : sm_c1 .ne rb true false = false) (b6 : a ≠ 0) (hB : ∀ lv1 : sm_L, sm_get lv1 0 = some (.ref 52) → sm_get lv1 3 = some (.int rb) → sm_get lv1 4 = some (.int (nI 1)) → sm_get lv1 5 = some (.int (nI (tn + 1))) → Bod (d + 8) 126 28 lv1 [] (S4) v Sf) : Bod (d + 8) 126 28 lv [] S v Sf := by
  refine Bod.ildG dc_126_28 (by repeat (first | exact q4 | exact sm_get_p1 | exact sm_get_p2e | refine sm_get_p1m (by decide) (by decide) ?_ | refine sm_get_p1n (by decide) rfl ?_ | refine sm_get_p2n (by decide) (by decide) rfl ?_)) ?_
  refine Bod.ifF dc_126_30 rfl (k1_eq_F (k_ne 1 0 rfl rfl (by omega) (by omega) (by omega))) ?_
  refine Bod.ildG dc_126_33 (by repeat (first | exact q5 | exact sm_get_p1 | exact sm_get_p2e | refine sm_get_p1m (by decide) (by decide) ?_ | refine sm_get_p1n (by decide) rfl ?_ | refine sm_get_p2n (by decide) (by decide) rfl ?_)) ?_
  refine Bod.ldcN 1000000000 (by decide) dc_126_35 ci_126_81 ?_
  refine Bod.icF dc_126_37 rfl (k2_ge_F tn 1000000000 rfl rfl (by omega) (by omega)) ?_
  refine Bod.aldnG dc_126_40 (by repeat (first | exact q0 | exact sm_get_p1 | exact sm_get_p2e | refine sm_get_p1m (by decide) (by decide) ?_ | refine sm_get_p1n (by decide) rfl ?_ | refine sm_get_p2n (by decide) (by decide) rfl ?_)) ?_
  refine Bod.virt (r := []) dc_126_41 kr_126_82 ⟨Or.inl rfl, ow_127, cl_4⟩ (by rw [np_127]; rfl) (by rw [np_127]; rfl) (ob_of (mk_52 _)) (Nat.le_of_ble_eq_true rfl) (c1  ) ?_
  show Bod _ _ _ _ [_] _ _ _
  refine Bod.ist dc_126_44 (by rw [ml_126]; exact Nat.le_of_ble_eq_true rfl) ?_
  refine Bod.ildG dc_126_46 (by repeat (first | exact q0 | exact sm_get_p1 | exact sm_get_p2e | refine sm_get_p1m (by decide) (by decide) ?_ | refine sm_get_p1n (by decide) rfl ?_ | refine sm_get_p2n (by decide) (by decide) rfl ?_)) ?_
  refine Bod.bip 15 (by decide) dc_126_48 ?_
  refine Bod.icT dc_126_50 rfl (k2_gt_T a 15 rfl rfl (by omega) (by omega)) ?_
  refine Bod.ildG dc_126_63 (by repeat (first | exact q0 | exact sm_get_p1 | exact sm_get_p2e | refine sm_get_p1m (by decide) (by decide) ?_ | refine sm_get_p1n (by decide) rfl ?_ | refine sm_get_p2n (by decide) (by decide) rfl ?_)) ?_
  refine Bod.bip 24 (by decide) dc_126_65 ?_
  refine Bod.icT dc_126_67 rfl (k2_gt_T a 24 rfl rfl (by omega) (by omega)) ?_
  refine Bod.ildG dc_126_80 (by repeat (first | exact q0 | exact sm_get_p1 | exact sm_get_p2e | refine sm_get_p1m (by decide) (by decide) ?_ | refine sm_get_p1n (by decide) rfl ?_ | refine sm_get_p2n (by decide) (by decide) rfl ?_)) ?_
  refine Bod.bip 43 (by decide) dc_126_82 ?_
  refine Bod.icT dc_126_84 rfl (k2_gt_T a 43 rfl rfl (by omega) (by omega)) ?_
  refine Bod.ildG dc_126_100 (by repeat (first | exact q0 | exact sm_get_p1 | exact sm_get_p2e | refine sm_get_p1m (by decide) (by decide) ?_ | refine sm_get_p1n (by decide) rfl ?_ | refine sm_get_p2n (by decide) (by decide) rfl ?_)) ?_
  refine Bod.bip 51 (by decide) dc_126_102 ?_
  refine Bod.icT dc_126_104 rfl (k2_eq_T (k_eq a 51 rfl rfl (by omega))) ?_
  refine Bod.aldnG dc_126_124 (by repeat (first | exact q0 | exact sm_get_p1 | exact sm_get_p2e | refine sm_get_p1m (by decide) (by decide) ?_ | refine sm_get_p1n (by decide) rfl ?_ | refine sm_get_p2n (by decide) (by decide) rfl ?_)) ?_
  refine Bod.virt (r := []) dc_126_125 kr_126_101 ⟨Or.inl rfl, ow_225, cl_4⟩ (by rw [np_225]; rfl) (by rw [np_225]; rfl) (ob_of (mk_52 _)) (Nat.le_of_ble_eq_true rfl) (c2  ) ?_
  show Bod _ _ _ _ [_] _ _ _
  refine Bod.ifT dc_126_128 rfl (k1_eq_T (k_eq 0 0 rfl rfl (by omega))) ?_
  refine Bod.aldnG dc_126_149 (by repeat (first | exact q0 | exact sm_get_p1 | exact sm_get_p2e | refine sm_get_p1m (by decide) (by decide) ?_ | refine sm_get_p1n (by decide) rfl ?_ | refine sm_get_p2n (by decide) (by decide) rfl ?_)) ?_
  refine Bod.aldnG dc_126_150 (by repeat (first | exact q0 | exact sm_get_p1 | exact sm_get_p2e | refine sm_get_p1m (by decide) (by decide) ?_ | refine sm_get_p1n (by decide) rfl ?_ | refine sm_get_p2n (by decide) (by decide) rfl ?_)) ?_
  refine Bod.virt (r := [_]) dc_126_151 kr_126_82 ⟨Or.inl rfl, ow_127, cl_4⟩ (by rw [np_127]; rfl) (by rw [np_127]; rfl) (ob_of (mk_52 _)) (Nat.le_of_ble_eq_true rfl) (c3  ) ?_
  show Bod _ _ _ _ [_, _] _ _ _
  refine Bod.virt (r := []) dc_126_154 kr_126_111 ⟨Or.inl rfl, ow_253, cl_4⟩ (by rw [np_253]; rfl) (by rw [np_253]; rfl) (ob_of (mk_52 _)) (Nat.le_of_ble_eq_true rfl) (c4  ) ?_
  show Bod _ _ _ _ [_] _ _ _
  refine Bod.istn dc_126_157 (by rw [ml_126]; exact Nat.le_of_ble_eq_true rfl) ?_
  refine Bod.ildnG dc_126_158 (by repeat (first | exact q0 | exact sm_get_p1 | exact sm_get_p2e | refine sm_get_p1m (by decide) (by decide) ?_ | refine sm_get_p1n (by decide) rfl ?_ | refine sm_get_p2n (by decide) (by decide) rfl ?_)) ?_
  refine Bod.ifF dc_126_159 rfl w13 ?_
  refine Bod.ildG dc_126_162 (by repeat (first | exact q0 | exact sm_get_p1 | exact sm_get_p2e | refine sm_get_p1m (by decide) (by decide) ?_ | refine sm_get_p1n (by decide) rfl ?_ | refine sm_get_p2n (by decide) (by decide) rfl ?_)) ?_
  refine Bod.ifF dc_126_164 rfl (k1_eq_F (k_ne a 0 rfl rfl (by omega) (by omega) (by omega))) ?_
  refine Bod.ic 1 (by decide) dc_126_167 ?_
  refine Bod.go dc_126_168 rfl ?_
  refine Bod.ist dc_126_180 (by rw [ml_126]; exact Nat.le_of_ble_eq_true rfl) ?_
  refine Bod.incN (tn + 1) (by rw [kc_1, nI_add]) dc_126_182 (by rw [ml_126]; exact Nat.le_of_ble_eq_true rfl) (by repeat (first | exact q5 | exact sm_get_p1 | exact sm_get_p2e | refine sm_get_p1m (by decide) (by decide) ?_ | refine sm_get_p1n (by decide) rfl ?_ | refine sm_get_p2n (by decide) (by decide) rfl ?_)) ?_
  refine Bod.go dc_126_185 rfl ?_
  exact hB _ (by repeat (first | exact q0 | exact sm_get_p1 | exact sm_get_p2e | refine sm_get_p1m (by decide) (by decide) ?_ | refine sm_get_p1n (by decide) rfl ?_ | refine sm_get_p2n (by decide) (by decide) rfl ?_)) (by repeat (first | exact q0 | exact sm_get_p1 | exact sm_get_p2e | refine sm_get_p1m (by decide) (by decide) ?_ | refine sm_get_p1n (by decide) rfl ?_ | refine sm_get_p2n (by decide) (by decide) rfl ?_)) (by repeat (first | exact q0 | exact sm_get_p1 | exact sm_get_p2e | refine sm_get_p1m (by decide) (by decide) ?_ | refine sm_get_p1n (by decide) rfl ?_ | refine sm_get_p2n (by decide) (by decide) rfl ?_)) (by repeat (first | exact q0 | exact sm_get_p1 | exact sm_get_p2e | refine sm_get_p1m (by decide) (by decide) ?_ | refine sm_get_p1n (by decide) rfl ?_ | refine sm_get_p2n (by decide) (by decide) rfl ?_))
theorem mPfL_10 {d : Nat} {S Sf : cS} {v : Option Value} {lv : sm_L} {ex : Int32} {tn : Nat} {S1 : cS} {a : Nat} {S2 : cS} {a1 : Nat} {S3 : cS} {rb : Int32} {S4 : cS} (q0 : sm_get lv 0 = some (.ref 52)) (q3 : sm_get lv 3 = some (.int ex)) (q4 : sm_get lv 4 = some (.int (nI 1))) (q5 : sm_get lv 5 = some (.int (nI tn))) (mtn : tn < 1000000001) (b1 : tn < 1000000000) (ma : a < 2 ^ 20) (c1 : Ans (d + 8) 127 [.ref 52] S (some (.int (nI a))) S1) (b2 : 15 < a) (b3 : 24 < a) (b4 : 43 < a) (b5 : a ≠ 51) (ma1 : a1 < 2 ^ 20) (c2 : Ans (d + 8) 127 [.ref 52] S1 (some (.int (nI a1))) S2) (c3 : Ans (d + 8) 217 [.ref 53, .int (nI a), .int (nI a1)] S2 (some (.int rb)) S3) (w12 : sm_c1 .ne rb true false = true) (c4 : Ans (d + 8) 266 [.ref 52, .int rb] S3 (some (.int (nI 1))) S4) (hB : ∀ lv1 : sm_L, sm_get lv1 0 = some (.ref 52) → sm_get lv1 3 = some (.int rb) → sm_get lv1 4 = some (.int (nI 1)) → sm_get lv1 5 = some (.int (nI (tn + 1))) → Bod (d + 8) 126 28 lv1 [] (S4) v Sf) : Bod (d + 8) 126 28 lv [] S v Sf := by
  refine Bod.ildG dc_126_28 (by repeat (first | exact q4 | exact sm_get_p1 | exact sm_get_p2e | refine sm_get_p1m (by decide) (by decide) ?_ | refine sm_get_p1n (by decide) rfl ?_ | refine sm_get_p2n (by decide) (by decide) rfl ?_)) ?_
  refine Bod.ifF dc_126_30 rfl (k1_eq_F (k_ne 1 0 rfl rfl (by omega) (by omega) (by omega))) ?_
  refine Bod.ildG dc_126_33 (by repeat (first | exact q5 | exact sm_get_p1 | exact sm_get_p2e | refine sm_get_p1m (by decide) (by decide) ?_ | refine sm_get_p1n (by decide) rfl ?_ | refine sm_get_p2n (by decide) (by decide) rfl ?_)) ?_
  refine Bod.ldcN 1000000000 (by decide) dc_126_35 ci_126_81 ?_
  refine Bod.icF dc_126_37 rfl (k2_ge_F tn 1000000000 rfl rfl (by omega) (by omega)) ?_
  refine Bod.aldnG dc_126_40 (by repeat (first | exact q0 | exact sm_get_p1 | exact sm_get_p2e | refine sm_get_p1m (by decide) (by decide) ?_ | refine sm_get_p1n (by decide) rfl ?_ | refine sm_get_p2n (by decide) (by decide) rfl ?_)) ?_
  refine Bod.virt (r := []) dc_126_41 kr_126_82 ⟨Or.inl rfl, ow_127, cl_4⟩ (by rw [np_127]; rfl) (by rw [np_127]; rfl) (ob_of (mk_52 _)) (Nat.le_of_ble_eq_true rfl) (c1  ) ?_
  show Bod _ _ _ _ [_] _ _ _
  refine Bod.ist dc_126_44 (by rw [ml_126]; exact Nat.le_of_ble_eq_true rfl) ?_
  refine Bod.ildG dc_126_46 (by repeat (first | exact q0 | exact sm_get_p1 | exact sm_get_p2e | refine sm_get_p1m (by decide) (by decide) ?_ | refine sm_get_p1n (by decide) rfl ?_ | refine sm_get_p2n (by decide) (by decide) rfl ?_)) ?_
  refine Bod.bip 15 (by decide) dc_126_48 ?_
  refine Bod.icT dc_126_50 rfl (k2_gt_T a 15 rfl rfl (by omega) (by omega)) ?_
  refine Bod.ildG dc_126_63 (by repeat (first | exact q0 | exact sm_get_p1 | exact sm_get_p2e | refine sm_get_p1m (by decide) (by decide) ?_ | refine sm_get_p1n (by decide) rfl ?_ | refine sm_get_p2n (by decide) (by decide) rfl ?_)) ?_
  refine Bod.bip 24 (by decide) dc_126_65 ?_
  refine Bod.icT dc_126_67 rfl (k2_gt_T a 24 rfl rfl (by omega) (by omega)) ?_
  refine Bod.ildG dc_126_80 (by repeat (first | exact q0 | exact sm_get_p1 | exact sm_get_p2e | refine sm_get_p1m (by decide) (by decide) ?_ | refine sm_get_p1n (by decide) rfl ?_ | refine sm_get_p2n (by decide) (by decide) rfl ?_)) ?_
  refine Bod.bip 43 (by decide) dc_126_82 ?_
  refine Bod.icT dc_126_84 rfl (k2_gt_T a 43 rfl rfl (by omega) (by omega)) ?_
  refine Bod.ildG dc_126_100 (by repeat (first | exact q0 | exact sm_get_p1 | exact sm_get_p2e | refine sm_get_p1m (by decide) (by decide) ?_ | refine sm_get_p1n (by decide) rfl ?_ | refine sm_get_p2n (by decide) (by decide) rfl ?_)) ?_
  refine Bod.bip 51 (by decide) dc_126_102 ?_
  refine Bod.icF dc_126_104 rfl (k2_eq_F (k_ne a 51 rfl rfl (by omega) (by omega) (by omega))) ?_
  refine Bod.aldnG dc_126_107 (by repeat (first | exact q0 | exact sm_get_p1 | exact sm_get_p2e | refine sm_get_p1m (by decide) (by decide) ?_ | refine sm_get_p1n (by decide) rfl ?_ | refine sm_get_p2n (by decide) (by decide) rfl ?_)) ?_
  refine Bod.get dc_126_108 fr_126_36 (mk_52 _) rfl ?_
  refine Bod.ildG dc_126_111 (by repeat (first | exact q0 | exact sm_get_p1 | exact sm_get_p2e | refine sm_get_p1m (by decide) (by decide) ?_ | refine sm_get_p1n (by decide) rfl ?_ | refine sm_get_p2n (by decide) (by decide) rfl ?_)) ?_
  refine Bod.aldnG dc_126_113 (by repeat (first | exact q0 | exact sm_get_p1 | exact sm_get_p2e | refine sm_get_p1m (by decide) (by decide) ?_ | refine sm_get_p1n (by decide) rfl ?_ | refine sm_get_p2n (by decide) (by decide) rfl ?_)) ?_
  refine Bod.virt (r := [_, _]) dc_126_114 kr_126_82 ⟨Or.inl rfl, ow_127, cl_4⟩ (by rw [np_127]; rfl) (by rw [np_127]; rfl) (ob_of (mk_52 _)) (Nat.le_of_ble_eq_true rfl) (c2  ) ?_
  show Bod _ _ _ _ [_, _, _] _ _ _
  refine Bod.virt (r := []) dc_126_117 kr_126_98 ⟨Or.inr rfl, ow_217, cl_6⟩ (by rw [np_217]; rfl) (by rw [np_217]; rfl) (ob_of (mk_53 _)) (Nat.le_of_ble_eq_true rfl) (c3  ) ?_
  show Bod _ _ _ _ [_] _ _ _
  refine Bod.istn dc_126_120 (by rw [ml_126]; exact Nat.le_of_ble_eq_true rfl) ?_
  refine Bod.go dc_126_121 rfl ?_
  refine Bod.ildnG dc_126_158 (by repeat (first | exact q0 | exact sm_get_p1 | exact sm_get_p2e | refine sm_get_p1m (by decide) (by decide) ?_ | refine sm_get_p1n (by decide) rfl ?_ | refine sm_get_p2n (by decide) (by decide) rfl ?_)) ?_
  refine Bod.ifT dc_126_159 rfl w12 ?_
  refine Bod.aldnG dc_126_175 (by repeat (first | exact q0 | exact sm_get_p1 | exact sm_get_p2e | refine sm_get_p1m (by decide) (by decide) ?_ | refine sm_get_p1n (by decide) rfl ?_ | refine sm_get_p2n (by decide) (by decide) rfl ?_)) ?_
  refine Bod.ildnG dc_126_176 (by repeat (first | exact q0 | exact sm_get_p1 | exact sm_get_p2e | refine sm_get_p1m (by decide) (by decide) ?_ | refine sm_get_p1n (by decide) rfl ?_ | refine sm_get_p2n (by decide) (by decide) rfl ?_)) ?_
  refine Bod.virt (r := []) dc_126_177 kr_126_114 ⟨Or.inl rfl, ow_266, cl_4⟩ (by rw [np_266]; rfl) (by rw [np_266]; rfl) (ob_of (mk_52 _)) (Nat.le_of_ble_eq_true rfl) (c4  ) ?_
  show Bod _ _ _ _ [_] _ _ _
  refine Bod.ist dc_126_180 (by rw [ml_126]; exact Nat.le_of_ble_eq_true rfl) ?_
  refine Bod.incN (tn + 1) (by rw [kc_1, nI_add]) dc_126_182 (by rw [ml_126]; exact Nat.le_of_ble_eq_true rfl) (by repeat (first | exact q5 | exact sm_get_p1 | exact sm_get_p2e | refine sm_get_p1m (by decide) (by decide) ?_ | refine sm_get_p1n (by decide) rfl ?_ | refine sm_get_p2n (by decide) (by decide) rfl ?_)) ?_
  refine Bod.go dc_126_185 rfl ?_
  exact hB _ (by repeat (first | exact q0 | exact sm_get_p1 | exact sm_get_p2e | refine sm_get_p1m (by decide) (by decide) ?_ | refine sm_get_p1n (by decide) rfl ?_ | refine sm_get_p2n (by decide) (by decide) rfl ?_)) (by repeat (first | exact q0 | exact sm_get_p1 | exact sm_get_p2e | refine sm_get_p1m (by decide) (by decide) ?_ | refine sm_get_p1n (by decide) rfl ?_ | refine sm_get_p2n (by decide) (by decide) rfl ?_)) (by repeat (first | exact q0 | exact sm_get_p1 | exact sm_get_p2e | refine sm_get_p1m (by decide) (by decide) ?_ | refine sm_get_p1n (by decide) rfl ?_ | refine sm_get_p2n (by decide) (by decide) rfl ?_)) (by repeat (first | exact q0 | exact sm_get_p1 | exact sm_get_p2e | refine sm_get_p1m (by decide) (by decide) ?_ | refine sm_get_p1n (by decide) rfl ?_ | refine sm_get_p2n (by decide) (by decide) rfl ?_))
theorem mPfL_11 {d : Nat} {S Sf : cS} {v : Option Value} {lv : sm_L} {ex : Int32} {tn : Nat} {S1 : cS} {a : Nat} {S2 : cS} {a1 : Nat} {S3 : cS} {rb : Int32} {S4 : cS} (q0 : sm_get lv 0 = some (.ref 52)) (q3 : sm_get lv 3 = some (.int ex)) (q4 : sm_get lv 4 = some (.int (nI 1))) (q5 : sm_get lv 5 = some (.int (nI tn))) (mtn : tn < 1000000001) (b1 : tn < 1000000000) (ma : a < 2 ^ 20) (c1 : Ans (d + 8) 127 [.ref 52] S (some (.int (nI a))) S1) (b2 : 15 < a) (b3 : 24 < a) (b4 : 43 < a) (b5 : a ≠ 51) (ma1 : a1 < 2 ^ 20) (c2 : Ans (d + 8) 127 [.ref 52] S1 (some (.int (nI a1))) S2) (c3 : Ans (d + 8) 217 [.ref 53, .int (nI a), .int (nI a1)] S2 (some (.int rb)) S3) (w12 : sm_c1 .ne rb true false = true) (c4 : Ans (d + 8) 266 [.ref 52, .int rb] S3 (some (.int (nI 0))) S4) (hB : ∀ lv1 : sm_L, sm_get lv1 0 = some (.ref 52) → sm_get lv1 3 = some (.int rb) → sm_get lv1 4 = some (.int (nI 0)) → sm_get lv1 5 = some (.int (nI (tn + 1))) → Bod (d + 8) 126 28 lv1 [] (S4) v Sf) : Bod (d + 8) 126 28 lv [] S v Sf := by
  refine Bod.ildG dc_126_28 (by repeat (first | exact q4 | exact sm_get_p1 | exact sm_get_p2e | refine sm_get_p1m (by decide) (by decide) ?_ | refine sm_get_p1n (by decide) rfl ?_ | refine sm_get_p2n (by decide) (by decide) rfl ?_)) ?_
  refine Bod.ifF dc_126_30 rfl (k1_eq_F (k_ne 1 0 rfl rfl (by omega) (by omega) (by omega))) ?_
  refine Bod.ildG dc_126_33 (by repeat (first | exact q5 | exact sm_get_p1 | exact sm_get_p2e | refine sm_get_p1m (by decide) (by decide) ?_ | refine sm_get_p1n (by decide) rfl ?_ | refine sm_get_p2n (by decide) (by decide) rfl ?_)) ?_
  refine Bod.ldcN 1000000000 (by decide) dc_126_35 ci_126_81 ?_
  refine Bod.icF dc_126_37 rfl (k2_ge_F tn 1000000000 rfl rfl (by omega) (by omega)) ?_
  refine Bod.aldnG dc_126_40 (by repeat (first | exact q0 | exact sm_get_p1 | exact sm_get_p2e | refine sm_get_p1m (by decide) (by decide) ?_ | refine sm_get_p1n (by decide) rfl ?_ | refine sm_get_p2n (by decide) (by decide) rfl ?_)) ?_
  refine Bod.virt (r := []) dc_126_41 kr_126_82 ⟨Or.inl rfl, ow_127, cl_4⟩ (by rw [np_127]; rfl) (by rw [np_127]; rfl) (ob_of (mk_52 _)) (Nat.le_of_ble_eq_true rfl) (c1  ) ?_
  show Bod _ _ _ _ [_] _ _ _
  refine Bod.ist dc_126_44 (by rw [ml_126]; exact Nat.le_of_ble_eq_true rfl) ?_
  refine Bod.ildG dc_126_46 (by repeat (first | exact q0 | exact sm_get_p1 | exact sm_get_p2e | refine sm_get_p1m (by decide) (by decide) ?_ | refine sm_get_p1n (by decide) rfl ?_ | refine sm_get_p2n (by decide) (by decide) rfl ?_)) ?_
  refine Bod.bip 15 (by decide) dc_126_48 ?_
  refine Bod.icT dc_126_50 rfl (k2_gt_T a 15 rfl rfl (by omega) (by omega)) ?_
  refine Bod.ildG dc_126_63 (by repeat (first | exact q0 | exact sm_get_p1 | exact sm_get_p2e | refine sm_get_p1m (by decide) (by decide) ?_ | refine sm_get_p1n (by decide) rfl ?_ | refine sm_get_p2n (by decide) (by decide) rfl ?_)) ?_
  refine Bod.bip 24 (by decide) dc_126_65 ?_
  refine Bod.icT dc_126_67 rfl (k2_gt_T a 24 rfl rfl (by omega) (by omega)) ?_
  refine Bod.ildG dc_126_80 (by repeat (first | exact q0 | exact sm_get_p1 | exact sm_get_p2e | refine sm_get_p1m (by decide) (by decide) ?_ | refine sm_get_p1n (by decide) rfl ?_ | refine sm_get_p2n (by decide) (by decide) rfl ?_)) ?_
  refine Bod.bip 43 (by decide) dc_126_82 ?_
  refine Bod.icT dc_126_84 rfl (k2_gt_T a 43 rfl rfl (by omega) (by omega)) ?_
  refine Bod.ildG dc_126_100 (by repeat (first | exact q0 | exact sm_get_p1 | exact sm_get_p2e | refine sm_get_p1m (by decide) (by decide) ?_ | refine sm_get_p1n (by decide) rfl ?_ | refine sm_get_p2n (by decide) (by decide) rfl ?_)) ?_
  refine Bod.bip 51 (by decide) dc_126_102 ?_
  refine Bod.icF dc_126_104 rfl (k2_eq_F (k_ne a 51 rfl rfl (by omega) (by omega) (by omega))) ?_
  refine Bod.aldnG dc_126_107 (by repeat (first | exact q0 | exact sm_get_p1 | exact sm_get_p2e | refine sm_get_p1m (by decide) (by decide) ?_ | refine sm_get_p1n (by decide) rfl ?_ | refine sm_get_p2n (by decide) (by decide) rfl ?_)) ?_
  refine Bod.get dc_126_108 fr_126_36 (mk_52 _) rfl ?_
  refine Bod.ildG dc_126_111 (by repeat (first | exact q0 | exact sm_get_p1 | exact sm_get_p2e | refine sm_get_p1m (by decide) (by decide) ?_ | refine sm_get_p1n (by decide) rfl ?_ | refine sm_get_p2n (by decide) (by decide) rfl ?_)) ?_
  refine Bod.aldnG dc_126_113 (by repeat (first | exact q0 | exact sm_get_p1 | exact sm_get_p2e | refine sm_get_p1m (by decide) (by decide) ?_ | refine sm_get_p1n (by decide) rfl ?_ | refine sm_get_p2n (by decide) (by decide) rfl ?_)) ?_
  refine Bod.virt (r := [_, _]) dc_126_114 kr_126_82 ⟨Or.inl rfl, ow_127, cl_4⟩ (by rw [np_127]; rfl) (by rw [np_127]; rfl) (ob_of (mk_52 _)) (Nat.le_of_ble_eq_true rfl) (c2  ) ?_
  show Bod _ _ _ _ [_, _, _] _ _ _
  refine Bod.virt (r := []) dc_126_117 kr_126_98 ⟨Or.inr rfl, ow_217, cl_6⟩ (by rw [np_217]; rfl) (by rw [np_217]; rfl) (ob_of (mk_53 _)) (Nat.le_of_ble_eq_true rfl) (c3  ) ?_
  show Bod _ _ _ _ [_] _ _ _
  refine Bod.istn dc_126_120 (by rw [ml_126]; exact Nat.le_of_ble_eq_true rfl) ?_
  refine Bod.go dc_126_121 rfl ?_
  refine Bod.ildnG dc_126_158 (by repeat (first | exact q0 | exact sm_get_p1 | exact sm_get_p2e | refine sm_get_p1m (by decide) (by decide) ?_ | refine sm_get_p1n (by decide) rfl ?_ | refine sm_get_p2n (by decide) (by decide) rfl ?_)) ?_
  refine Bod.ifT dc_126_159 rfl w12 ?_
  refine Bod.aldnG dc_126_175 (by repeat (first | exact q0 | exact sm_get_p1 | exact sm_get_p2e | refine sm_get_p1m (by decide) (by decide) ?_ | refine sm_get_p1n (by decide) rfl ?_ | refine sm_get_p2n (by decide) (by decide) rfl ?_)) ?_
  refine Bod.ildnG dc_126_176 (by repeat (first | exact q0 | exact sm_get_p1 | exact sm_get_p2e | refine sm_get_p1m (by decide) (by decide) ?_ | refine sm_get_p1n (by decide) rfl ?_ | refine sm_get_p2n (by decide) (by decide) rfl ?_)) ?_
  refine Bod.virt (r := []) dc_126_177 kr_126_114 ⟨Or.inl rfl, ow_266, cl_4⟩ (by rw [np_266]; rfl) (by rw [np_266]; rfl) (ob_of (mk_52 _)) (Nat.le_of_ble_eq_true rfl) (c4  ) ?_
  show Bod _ _ _ _ [_] _ _ _
  refine Bod.ist dc_126_180 (by rw [ml_126]; exact Nat.le_of_ble_eq_true rfl) ?_
  refine Bod.incN (tn + 1) (by rw [kc_1, nI_add]) dc_126_182 (by rw [ml_126]; exact Nat.le_of_ble_eq_true rfl) (by repeat (first | exact q5 | exact sm_get_p1 | exact sm_get_p2e | refine sm_get_p1m (by decide) (by decide) ?_ | refine sm_get_p1n (by decide) rfl ?_ | refine sm_get_p2n (by decide) (by decide) rfl ?_)) ?_
  refine Bod.go dc_126_185 rfl ?_
  exact hB _ (by repeat (first | exact q0 | exact sm_get_p1 | exact sm_get_p2e | refine sm_get_p1m (by decide) (by decide) ?_ | refine sm_get_p1n (by decide) rfl ?_ | refine sm_get_p2n (by decide) (by decide) rfl ?_)) (by repeat (first | exact q0 | exact sm_get_p1 | exact sm_get_p2e | refine sm_get_p1m (by decide) (by decide) ?_ | refine sm_get_p1n (by decide) rfl ?_ | refine sm_get_p2n (by decide) (by decide) rfl ?_)) (by repeat (first | exact q0 | exact sm_get_p1 | exact sm_get_p2e | refine sm_get_p1m (by decide) (by decide) ?_ | refine sm_get_p1n (by decide) rfl ?_ | refine sm_get_p2n (by decide) (by decide) rfl ?_)) (by repeat (first | exact q0 | exact sm_get_p1 | exact sm_get_p2e | refine sm_get_p1m (by decide) (by decide) ?_ | refine sm_get_p1n (by decide) rfl ?_ | refine sm_get_p2n (by decide) (by decide) rfl ?_))
theorem mPfL_12 {d : Nat} {S Sf : cS} {v : Option Value} {lv : sm_L} {ex : Int32} {tn : Nat} {S1 : cS} {a : Nat} {S2 : cS} {a1 : Nat} {S3 : cS} {rb : Int32} (q0 : sm_get lv 0 = some (.ref 52)) (q3 : sm_get lv 3 = some (.int ex)) (q4 : sm_get lv 4 = some (.int (nI 1))) (q5 : sm_get lv 5 = some (.int (nI tn))) (mtn : tn < 1000000001) (b1 : tn < 1000000000) (ma : a < 2 ^ 20) (c1 : Ans (d + 8) 127 [.ref 52] S (some (.int (nI a))) S1) (b2 : 15 < a) (b3 : 24 < a) (b4 : 43 < a) (b5 : a ≠ 51) (ma1 : a1 < 2 ^ 20) (c2 : Ans (d + 8) 127 [.ref 52] S1 (some (.int (nI a1))) S2) (c3 : Ans (d + 8) 217 [.ref 53, .int (nI a), .int (nI a1)] S2 (some (.int rb)) S3) (w12 : sm_c1 .ne rb true false = false) (b6 : a = 0) (hB : ∀ lv1 : sm_L, sm_get lv1 0 = some (.ref 52) → sm_get lv1 3 = some (.int rb) → sm_get lv1 4 = some (.int (nI 0)) → sm_get lv1 5 = some (.int (nI (tn + 1))) → Bod (d + 8) 126 28 lv1 [] (S3) v Sf) : Bod (d + 8) 126 28 lv [] S v Sf := by
  refine Bod.ildG dc_126_28 (by repeat (first | exact q4 | exact sm_get_p1 | exact sm_get_p2e | refine sm_get_p1m (by decide) (by decide) ?_ | refine sm_get_p1n (by decide) rfl ?_ | refine sm_get_p2n (by decide) (by decide) rfl ?_)) ?_
  refine Bod.ifF dc_126_30 rfl (k1_eq_F (k_ne 1 0 rfl rfl (by omega) (by omega) (by omega))) ?_
  refine Bod.ildG dc_126_33 (by repeat (first | exact q5 | exact sm_get_p1 | exact sm_get_p2e | refine sm_get_p1m (by decide) (by decide) ?_ | refine sm_get_p1n (by decide) rfl ?_ | refine sm_get_p2n (by decide) (by decide) rfl ?_)) ?_
  refine Bod.ldcN 1000000000 (by decide) dc_126_35 ci_126_81 ?_
  refine Bod.icF dc_126_37 rfl (k2_ge_F tn 1000000000 rfl rfl (by omega) (by omega)) ?_
  refine Bod.aldnG dc_126_40 (by repeat (first | exact q0 | exact sm_get_p1 | exact sm_get_p2e | refine sm_get_p1m (by decide) (by decide) ?_ | refine sm_get_p1n (by decide) rfl ?_ | refine sm_get_p2n (by decide) (by decide) rfl ?_)) ?_
  refine Bod.virt (r := []) dc_126_41 kr_126_82 ⟨Or.inl rfl, ow_127, cl_4⟩ (by rw [np_127]; rfl) (by rw [np_127]; rfl) (ob_of (mk_52 _)) (Nat.le_of_ble_eq_true rfl) (c1  ) ?_
  show Bod _ _ _ _ [_] _ _ _
  refine Bod.ist dc_126_44 (by rw [ml_126]; exact Nat.le_of_ble_eq_true rfl) ?_
  refine Bod.ildG dc_126_46 (by repeat (first | exact q0 | exact sm_get_p1 | exact sm_get_p2e | refine sm_get_p1m (by decide) (by decide) ?_ | refine sm_get_p1n (by decide) rfl ?_ | refine sm_get_p2n (by decide) (by decide) rfl ?_)) ?_
  refine Bod.bip 15 (by decide) dc_126_48 ?_
  refine Bod.icT dc_126_50 rfl (k2_gt_T a 15 rfl rfl (by omega) (by omega)) ?_
  refine Bod.ildG dc_126_63 (by repeat (first | exact q0 | exact sm_get_p1 | exact sm_get_p2e | refine sm_get_p1m (by decide) (by decide) ?_ | refine sm_get_p1n (by decide) rfl ?_ | refine sm_get_p2n (by decide) (by decide) rfl ?_)) ?_
  refine Bod.bip 24 (by decide) dc_126_65 ?_
  refine Bod.icT dc_126_67 rfl (k2_gt_T a 24 rfl rfl (by omega) (by omega)) ?_
  refine Bod.ildG dc_126_80 (by repeat (first | exact q0 | exact sm_get_p1 | exact sm_get_p2e | refine sm_get_p1m (by decide) (by decide) ?_ | refine sm_get_p1n (by decide) rfl ?_ | refine sm_get_p2n (by decide) (by decide) rfl ?_)) ?_
  refine Bod.bip 43 (by decide) dc_126_82 ?_
  refine Bod.icT dc_126_84 rfl (k2_gt_T a 43 rfl rfl (by omega) (by omega)) ?_
  refine Bod.ildG dc_126_100 (by repeat (first | exact q0 | exact sm_get_p1 | exact sm_get_p2e | refine sm_get_p1m (by decide) (by decide) ?_ | refine sm_get_p1n (by decide) rfl ?_ | refine sm_get_p2n (by decide) (by decide) rfl ?_)) ?_
  refine Bod.bip 51 (by decide) dc_126_102 ?_
  refine Bod.icF dc_126_104 rfl (k2_eq_F (k_ne a 51 rfl rfl (by omega) (by omega) (by omega))) ?_
  refine Bod.aldnG dc_126_107 (by repeat (first | exact q0 | exact sm_get_p1 | exact sm_get_p2e | refine sm_get_p1m (by decide) (by decide) ?_ | refine sm_get_p1n (by decide) rfl ?_ | refine sm_get_p2n (by decide) (by decide) rfl ?_)) ?_
  refine Bod.get dc_126_108 fr_126_36 (mk_52 _) rfl ?_
  refine Bod.ildG dc_126_111 (by repeat (first | exact q0 | exact sm_get_p1 | exact sm_get_p2e | refine sm_get_p1m (by decide) (by decide) ?_ | refine sm_get_p1n (by decide) rfl ?_ | refine sm_get_p2n (by decide) (by decide) rfl ?_)) ?_
  refine Bod.aldnG dc_126_113 (by repeat (first | exact q0 | exact sm_get_p1 | exact sm_get_p2e | refine sm_get_p1m (by decide) (by decide) ?_ | refine sm_get_p1n (by decide) rfl ?_ | refine sm_get_p2n (by decide) (by decide) rfl ?_)) ?_
  refine Bod.virt (r := [_, _]) dc_126_114 kr_126_82 ⟨Or.inl rfl, ow_127, cl_4⟩ (by rw [np_127]; rfl) (by rw [np_127]; rfl) (ob_of (mk_52 _)) (Nat.le_of_ble_eq_true rfl) (c2  ) ?_
  show Bod _ _ _ _ [_, _, _] _ _ _
  refine Bod.virt (r := []) dc_126_117 kr_126_98 ⟨Or.inr rfl, ow_217, cl_6⟩ (by rw [np_217]; rfl) (by rw [np_217]; rfl) (ob_of (mk_53 _)) (Nat.le_of_ble_eq_true rfl) (c3  ) ?_
  show Bod _ _ _ _ [_] _ _ _
  refine Bod.istn dc_126_120 (by rw [ml_126]; exact Nat.le_of_ble_eq_true rfl) ?_
  refine Bod.go dc_126_121 rfl ?_
  refine Bod.ildnG dc_126_158 (by repeat (first | exact q0 | exact sm_get_p1 | exact sm_get_p2e | refine sm_get_p1m (by decide) (by decide) ?_ | refine sm_get_p1n (by decide) rfl ?_ | refine sm_get_p2n (by decide) (by decide) rfl ?_)) ?_
  refine Bod.ifF dc_126_159 rfl w12 ?_
  refine Bod.ildG dc_126_162 (by repeat (first | exact q0 | exact sm_get_p1 | exact sm_get_p2e | refine sm_get_p1m (by decide) (by decide) ?_ | refine sm_get_p1n (by decide) rfl ?_ | refine sm_get_p2n (by decide) (by decide) rfl ?_)) ?_
  refine Bod.ifT dc_126_164 rfl (k1_eq_T (k_eq a 0 rfl rfl (by omega))) ?_
  refine Bod.ic 0 (by decide) dc_126_171 ?_
  refine Bod.go dc_126_172 rfl ?_
  refine Bod.ist dc_126_180 (by rw [ml_126]; exact Nat.le_of_ble_eq_true rfl) ?_
  refine Bod.incN (tn + 1) (by rw [kc_1, nI_add]) dc_126_182 (by rw [ml_126]; exact Nat.le_of_ble_eq_true rfl) (by repeat (first | exact q5 | exact sm_get_p1 | exact sm_get_p2e | refine sm_get_p1m (by decide) (by decide) ?_ | refine sm_get_p1n (by decide) rfl ?_ | refine sm_get_p2n (by decide) (by decide) rfl ?_)) ?_
  refine Bod.go dc_126_185 rfl ?_
  exact hB _ (by repeat (first | exact q0 | exact sm_get_p1 | exact sm_get_p2e | refine sm_get_p1m (by decide) (by decide) ?_ | refine sm_get_p1n (by decide) rfl ?_ | refine sm_get_p2n (by decide) (by decide) rfl ?_)) (by repeat (first | exact q0 | exact sm_get_p1 | exact sm_get_p2e | refine sm_get_p1m (by decide) (by decide) ?_ | refine sm_get_p1n (by decide) rfl ?_ | refine sm_get_p2n (by decide) (by decide) rfl ?_)) (by repeat (first | exact q0 | exact sm_get_p1 | exact sm_get_p2e | refine sm_get_p1m (by decide) (by decide) ?_ | refine sm_get_p1n (by decide) rfl ?_ | refine sm_get_p2n (by decide) (by decide) rfl ?_)) (by repeat (first | exact q0 | exact sm_get_p1 | exact sm_get_p2e | refine sm_get_p1m (by decide) (by decide) ?_ | refine sm_get_p1n (by decide) rfl ?_ | refine sm_get_p2n (by decide) (by decide) rfl ?_))
theorem mPfL_13 {d : Nat} {S Sf : cS} {v : Option Value} {lv : sm_L} {ex : Int32} {tn : Nat} {S1 : cS} {a : Nat} {S2 : cS} {a1 : Nat} {S3 : cS} {rb : Int32} (q0 : sm_get lv 0 = some (.ref 52)) (q3 : sm_get lv 3 = some (.int ex)) (q4 : sm_get lv 4 = some (.int (nI 1))) (q5 : sm_get lv 5 = some (.int (nI tn))) (mtn : tn < 1000000001) (b1 : tn < 1000000000) (ma : a < 2 ^ 20) (c1 : Ans (d + 8) 127 [.ref 52] S (some (.int (nI a))) S1) (b2 : 15 < a) (b3 : 24 < a) (b4 : 43 < a) (b5 : a ≠ 51) (ma1 : a1 < 2 ^ 20) (c2 : Ans (d + 8) 127 [.ref 52] S1 (some (.int (nI a1))) S2) (c3 : Ans (d + 8) 217 [.ref 53, .int (nI a), .int (nI a1)] S2 (some (.int rb)) S3) (w12 : sm_c1 .ne rb true false = false) (b6 : a ≠ 0) (hB : ∀ lv1 : sm_L, sm_get lv1 0 = some (.ref 52) → sm_get lv1 3 = some (.int rb) → sm_get lv1 4 = some (.int (nI 1)) → sm_get lv1 5 = some (.int (nI (tn + 1))) → Bod (d + 8) 126 28 lv1 [] (S3) v Sf) : Bod (d + 8) 126 28 lv [] S v Sf := by
  refine Bod.ildG dc_126_28 (by repeat (first | exact q4 | exact sm_get_p1 | exact sm_get_p2e | refine sm_get_p1m (by decide) (by decide) ?_ | refine sm_get_p1n (by decide) rfl ?_ | refine sm_get_p2n (by decide) (by decide) rfl ?_)) ?_
  refine Bod.ifF dc_126_30 rfl (k1_eq_F (k_ne 1 0 rfl rfl (by omega) (by omega) (by omega))) ?_
  refine Bod.ildG dc_126_33 (by repeat (first | exact q5 | exact sm_get_p1 | exact sm_get_p2e | refine sm_get_p1m (by decide) (by decide) ?_ | refine sm_get_p1n (by decide) rfl ?_ | refine sm_get_p2n (by decide) (by decide) rfl ?_)) ?_
  refine Bod.ldcN 1000000000 (by decide) dc_126_35 ci_126_81 ?_
  refine Bod.icF dc_126_37 rfl (k2_ge_F tn 1000000000 rfl rfl (by omega) (by omega)) ?_
  refine Bod.aldnG dc_126_40 (by repeat (first | exact q0 | exact sm_get_p1 | exact sm_get_p2e | refine sm_get_p1m (by decide) (by decide) ?_ | refine sm_get_p1n (by decide) rfl ?_ | refine sm_get_p2n (by decide) (by decide) rfl ?_)) ?_
  refine Bod.virt (r := []) dc_126_41 kr_126_82 ⟨Or.inl rfl, ow_127, cl_4⟩ (by rw [np_127]; rfl) (by rw [np_127]; rfl) (ob_of (mk_52 _)) (Nat.le_of_ble_eq_true rfl) (c1  ) ?_
  show Bod _ _ _ _ [_] _ _ _
  refine Bod.ist dc_126_44 (by rw [ml_126]; exact Nat.le_of_ble_eq_true rfl) ?_
  refine Bod.ildG dc_126_46 (by repeat (first | exact q0 | exact sm_get_p1 | exact sm_get_p2e | refine sm_get_p1m (by decide) (by decide) ?_ | refine sm_get_p1n (by decide) rfl ?_ | refine sm_get_p2n (by decide) (by decide) rfl ?_)) ?_
  refine Bod.bip 15 (by decide) dc_126_48 ?_
  refine Bod.icT dc_126_50 rfl (k2_gt_T a 15 rfl rfl (by omega) (by omega)) ?_
  refine Bod.ildG dc_126_63 (by repeat (first | exact q0 | exact sm_get_p1 | exact sm_get_p2e | refine sm_get_p1m (by decide) (by decide) ?_ | refine sm_get_p1n (by decide) rfl ?_ | refine sm_get_p2n (by decide) (by decide) rfl ?_)) ?_
  refine Bod.bip 24 (by decide) dc_126_65 ?_
  refine Bod.icT dc_126_67 rfl (k2_gt_T a 24 rfl rfl (by omega) (by omega)) ?_
  refine Bod.ildG dc_126_80 (by repeat (first | exact q0 | exact sm_get_p1 | exact sm_get_p2e | refine sm_get_p1m (by decide) (by decide) ?_ | refine sm_get_p1n (by decide) rfl ?_ | refine sm_get_p2n (by decide) (by decide) rfl ?_)) ?_
  refine Bod.bip 43 (by decide) dc_126_82 ?_
  refine Bod.icT dc_126_84 rfl (k2_gt_T a 43 rfl rfl (by omega) (by omega)) ?_
  refine Bod.ildG dc_126_100 (by repeat (first | exact q0 | exact sm_get_p1 | exact sm_get_p2e | refine sm_get_p1m (by decide) (by decide) ?_ | refine sm_get_p1n (by decide) rfl ?_ | refine sm_get_p2n (by decide) (by decide) rfl ?_)) ?_
  refine Bod.bip 51 (by decide) dc_126_102 ?_
  refine Bod.icF dc_126_104 rfl (k2_eq_F (k_ne a 51 rfl rfl (by omega) (by omega) (by omega))) ?_
  refine Bod.aldnG dc_126_107 (by repeat (first | exact q0 | exact sm_get_p1 | exact sm_get_p2e | refine sm_get_p1m (by decide) (by decide) ?_ | refine sm_get_p1n (by decide) rfl ?_ | refine sm_get_p2n (by decide) (by decide) rfl ?_)) ?_
  refine Bod.get dc_126_108 fr_126_36 (mk_52 _) rfl ?_
  refine Bod.ildG dc_126_111 (by repeat (first | exact q0 | exact sm_get_p1 | exact sm_get_p2e | refine sm_get_p1m (by decide) (by decide) ?_ | refine sm_get_p1n (by decide) rfl ?_ | refine sm_get_p2n (by decide) (by decide) rfl ?_)) ?_
  refine Bod.aldnG dc_126_113 (by repeat (first | exact q0 | exact sm_get_p1 | exact sm_get_p2e | refine sm_get_p1m (by decide) (by decide) ?_ | refine sm_get_p1n (by decide) rfl ?_ | refine sm_get_p2n (by decide) (by decide) rfl ?_)) ?_
  refine Bod.virt (r := [_, _]) dc_126_114 kr_126_82 ⟨Or.inl rfl, ow_127, cl_4⟩ (by rw [np_127]; rfl) (by rw [np_127]; rfl) (ob_of (mk_52 _)) (Nat.le_of_ble_eq_true rfl) (c2  ) ?_
  show Bod _ _ _ _ [_, _, _] _ _ _
  refine Bod.virt (r := []) dc_126_117 kr_126_98 ⟨Or.inr rfl, ow_217, cl_6⟩ (by rw [np_217]; rfl) (by rw [np_217]; rfl) (ob_of (mk_53 _)) (Nat.le_of_ble_eq_true rfl) (c3  ) ?_
  show Bod _ _ _ _ [_] _ _ _
  refine Bod.istn dc_126_120 (by rw [ml_126]; exact Nat.le_of_ble_eq_true rfl) ?_
  refine Bod.go dc_126_121 rfl ?_
  refine Bod.ildnG dc_126_158 (by repeat (first | exact q0 | exact sm_get_p1 | exact sm_get_p2e | refine sm_get_p1m (by decide) (by decide) ?_ | refine sm_get_p1n (by decide) rfl ?_ | refine sm_get_p2n (by decide) (by decide) rfl ?_)) ?_
  refine Bod.ifF dc_126_159 rfl w12 ?_
  refine Bod.ildG dc_126_162 (by repeat (first | exact q0 | exact sm_get_p1 | exact sm_get_p2e | refine sm_get_p1m (by decide) (by decide) ?_ | refine sm_get_p1n (by decide) rfl ?_ | refine sm_get_p2n (by decide) (by decide) rfl ?_)) ?_
  refine Bod.ifF dc_126_164 rfl (k1_eq_F (k_ne a 0 rfl rfl (by omega) (by omega) (by omega))) ?_
  refine Bod.ic 1 (by decide) dc_126_167 ?_
  refine Bod.go dc_126_168 rfl ?_
  refine Bod.ist dc_126_180 (by rw [ml_126]; exact Nat.le_of_ble_eq_true rfl) ?_
  refine Bod.incN (tn + 1) (by rw [kc_1, nI_add]) dc_126_182 (by rw [ml_126]; exact Nat.le_of_ble_eq_true rfl) (by repeat (first | exact q5 | exact sm_get_p1 | exact sm_get_p2e | refine sm_get_p1m (by decide) (by decide) ?_ | refine sm_get_p1n (by decide) rfl ?_ | refine sm_get_p2n (by decide) (by decide) rfl ?_)) ?_
  refine Bod.go dc_126_185 rfl ?_
  exact hB _ (by repeat (first | exact q0 | exact sm_get_p1 | exact sm_get_p2e | refine sm_get_p1m (by decide) (by decide) ?_ | refine sm_get_p1n (by decide) rfl ?_ | refine sm_get_p2n (by decide) (by decide) rfl ?_)) (by repeat (first | exact q0 | exact sm_get_p1 | exact sm_get_p2e | refine sm_get_p1m (by decide) (by decide) ?_ | refine sm_get_p1n (by decide) rfl ?_ | refine sm_get_p2n (by decide) (by decide) rfl ?_)) (by repeat (first | exact q0 | exact sm_get_p1 | exact sm_get_p2e | refine sm_get_p1m (by decide) (by decide) ?_ | refine sm_get_p1n (by decide) rfl ?_ | refine sm_get_p2n (by decide) (by decide) rfl ?_)) (by repeat (first | exact q0 | exact sm_get_p1 | exact sm_get_p2e | refine sm_get_p1m (by decide) (by decide) ?_ | refine sm_get_p1n (by decide) rfl ?_ | refine sm_get_p2n (by decide) (by decide) rfl ?_))
theorem mPfL_14 {d : Nat} {S Sf : cS} {v : Option Value} {lv : sm_L} {ex : Int32} {tn : Nat} {S1 : cS} {a : Nat} {S2 : cS} {rb : Int32} {S3 : cS} (q0 : sm_get lv 0 = some (.ref 52)) (q3 : sm_get lv 3 = some (.int ex)) (q4 : sm_get lv 4 = some (.int (nI 1))) (q5 : sm_get lv 5 = some (.int (nI tn))) (mtn : tn < 1000000001) (b1 : tn < 1000000000) (ma : a < 2 ^ 20) (c1 : Ans (d + 8) 127 [.ref 52] S (some (.int (nI a))) S1) (b2 : 15 < a) (b3 : 24 < a) (b4 : a ≤ 43) (c2 : Ans (d + 8) 189 [.ref 53, .int (nI a)] S1 (some (.int rb)) S2) (w9 : sm_c1 .ne rb true false = true) (c3 : Ans (d + 8) 266 [.ref 52, .int rb] S2 (some (.int (nI 1))) S3) (hB : ∀ lv1 : sm_L, sm_get lv1 0 = some (.ref 52) → sm_get lv1 3 = some (.int rb) → sm_get lv1 4 = some (.int (nI 1)) → sm_get lv1 5 = some (.int (nI (tn + 1))) → Bod (d + 8) 126 28 lv1 [] (S3) v Sf) : Bod (d + 8) 126 28 lv [] S v Sf := by
  refine Bod.ildG dc_126_28 (by repeat (first | exact q4 | exact sm_get_p1 | exact sm_get_p2e | refine sm_get_p1m (by decide) (by decide) ?_ | refine sm_get_p1n (by decide) rfl ?_ | refine sm_get_p2n (by decide) (by decide) rfl ?_)) ?_
  refine Bod.ifF dc_126_30 rfl (k1_eq_F (k_ne 1 0 rfl rfl (by omega) (by omega) (by omega))) ?_
  refine Bod.ildG dc_126_33 (by repeat (first | exact q5 | exact sm_get_p1 | exact sm_get_p2e | refine sm_get_p1m (by decide) (by decide) ?_ | refine sm_get_p1n (by decide) rfl ?_ | refine sm_get_p2n (by decide) (by decide) rfl ?_)) ?_
  refine Bod.ldcN 1000000000 (by decide) dc_126_35 ci_126_81 ?_
  refine Bod.icF dc_126_37 rfl (k2_ge_F tn 1000000000 rfl rfl (by omega) (by omega)) ?_
  refine Bod.aldnG dc_126_40 (by repeat (first | exact q0 | exact sm_get_p1 | exact sm_get_p2e | refine sm_get_p1m (by decide) (by decide) ?_ | refine sm_get_p1n (by decide) rfl ?_ | refine sm_get_p2n (by decide) (by decide) rfl ?_)) ?_
  refine Bod.virt (r := []) dc_126_41 kr_126_82 ⟨Or.inl rfl, ow_127, cl_4⟩ (by rw [np_127]; rfl) (by rw [np_127]; rfl) (ob_of (mk_52 _)) (Nat.le_of_ble_eq_true rfl) (c1  ) ?_
  show Bod _ _ _ _ [_] _ _ _
  refine Bod.ist dc_126_44 (by rw [ml_126]; exact Nat.le_of_ble_eq_true rfl) ?_
  refine Bod.ildG dc_126_46 (by repeat (first | exact q0 | exact sm_get_p1 | exact sm_get_p2e | refine sm_get_p1m (by decide) (by decide) ?_ | refine sm_get_p1n (by decide) rfl ?_ | refine sm_get_p2n (by decide) (by decide) rfl ?_)) ?_
  refine Bod.bip 15 (by decide) dc_126_48 ?_
  refine Bod.icT dc_126_50 rfl (k2_gt_T a 15 rfl rfl (by omega) (by omega)) ?_
  refine Bod.ildG dc_126_63 (by repeat (first | exact q0 | exact sm_get_p1 | exact sm_get_p2e | refine sm_get_p1m (by decide) (by decide) ?_ | refine sm_get_p1n (by decide) rfl ?_ | refine sm_get_p2n (by decide) (by decide) rfl ?_)) ?_
  refine Bod.bip 24 (by decide) dc_126_65 ?_
  refine Bod.icT dc_126_67 rfl (k2_gt_T a 24 rfl rfl (by omega) (by omega)) ?_
  refine Bod.ildG dc_126_80 (by repeat (first | exact q0 | exact sm_get_p1 | exact sm_get_p2e | refine sm_get_p1m (by decide) (by decide) ?_ | refine sm_get_p1n (by decide) rfl ?_ | refine sm_get_p2n (by decide) (by decide) rfl ?_)) ?_
  refine Bod.bip 43 (by decide) dc_126_82 ?_
  refine Bod.icF dc_126_84 rfl (k2_gt_F a 43 rfl rfl (by omega) (by omega)) ?_
  refine Bod.aldnG dc_126_87 (by repeat (first | exact q0 | exact sm_get_p1 | exact sm_get_p2e | refine sm_get_p1m (by decide) (by decide) ?_ | refine sm_get_p1n (by decide) rfl ?_ | refine sm_get_p2n (by decide) (by decide) rfl ?_)) ?_
  refine Bod.get dc_126_88 fr_126_36 (mk_52 _) rfl ?_
  refine Bod.ildG dc_126_91 (by repeat (first | exact q0 | exact sm_get_p1 | exact sm_get_p2e | refine sm_get_p1m (by decide) (by decide) ?_ | refine sm_get_p1n (by decide) rfl ?_ | refine sm_get_p2n (by decide) (by decide) rfl ?_)) ?_
  refine Bod.virt (r := []) dc_126_93 kr_126_95 ⟨Or.inr rfl, ow_189, cl_6⟩ (by rw [np_189]; rfl) (by rw [np_189]; rfl) (ob_of (mk_53 _)) (Nat.le_of_ble_eq_true rfl) (c2  ) ?_
  show Bod _ _ _ _ [_] _ _ _
  refine Bod.istn dc_126_96 (by rw [ml_126]; exact Nat.le_of_ble_eq_true rfl) ?_
  refine Bod.go dc_126_97 rfl ?_
  refine Bod.ildnG dc_126_158 (by repeat (first | exact q0 | exact sm_get_p1 | exact sm_get_p2e | refine sm_get_p1m (by decide) (by decide) ?_ | refine sm_get_p1n (by decide) rfl ?_ | refine sm_get_p2n (by decide) (by decide) rfl ?_)) ?_
  refine Bod.ifT dc_126_159 rfl w9 ?_
  refine Bod.aldnG dc_126_175 (by repeat (first | exact q0 | exact sm_get_p1 | exact sm_get_p2e | refine sm_get_p1m (by decide) (by decide) ?_ | refine sm_get_p1n (by decide) rfl ?_ | refine sm_get_p2n (by decide) (by decide) rfl ?_)) ?_
  refine Bod.ildnG dc_126_176 (by repeat (first | exact q0 | exact sm_get_p1 | exact sm_get_p2e | refine sm_get_p1m (by decide) (by decide) ?_ | refine sm_get_p1n (by decide) rfl ?_ | refine sm_get_p2n (by decide) (by decide) rfl ?_)) ?_
  refine Bod.virt (r := []) dc_126_177 kr_126_114 ⟨Or.inl rfl, ow_266, cl_4⟩ (by rw [np_266]; rfl) (by rw [np_266]; rfl) (ob_of (mk_52 _)) (Nat.le_of_ble_eq_true rfl) (c3  ) ?_
  show Bod _ _ _ _ [_] _ _ _
  refine Bod.ist dc_126_180 (by rw [ml_126]; exact Nat.le_of_ble_eq_true rfl) ?_
  refine Bod.incN (tn + 1) (by rw [kc_1, nI_add]) dc_126_182 (by rw [ml_126]; exact Nat.le_of_ble_eq_true rfl) (by repeat (first | exact q5 | exact sm_get_p1 | exact sm_get_p2e | refine sm_get_p1m (by decide) (by decide) ?_ | refine sm_get_p1n (by decide) rfl ?_ | refine sm_get_p2n (by decide) (by decide) rfl ?_)) ?_
  refine Bod.go dc_126_185 rfl ?_
  exact hB _ (by repeat (first | exact q0 | exact sm_get_p1 | exact sm_get_p2e | refine sm_get_p1m (by decide) (by decide) ?_ | refine sm_get_p1n (by decide) rfl ?_ | refine sm_get_p2n (by decide) (by decide) rfl ?_)) (by repeat (first | exact q0 | exact sm_get_p1 | exact sm_get_p2e | refine sm_get_p1m (by decide) (by decide) ?_ | refine sm_get_p1n (by decide) rfl ?_ | refine sm_get_p2n (by decide) (by decide) rfl ?_)) (by repeat (first | exact q0 | exact sm_get_p1 | exact sm_get_p2e | refine sm_get_p1m (by decide) (by decide) ?_ | refine sm_get_p1n (by decide) rfl ?_ | refine sm_get_p2n (by decide) (by decide) rfl ?_)) (by repeat (first | exact q0 | exact sm_get_p1 | exact sm_get_p2e | refine sm_get_p1m (by decide) (by decide) ?_ | refine sm_get_p1n (by decide) rfl ?_ | refine sm_get_p2n (by decide) (by decide) rfl ?_))
theorem mPfL_15 {d : Nat} {S Sf : cS} {v : Option Value} {lv : sm_L} {ex : Int32} {tn : Nat} {S1 : cS} {a : Nat} {S2 : cS} {rb : Int32} {S3 : cS} (q0 : sm_get lv 0 = some (.ref 52)) (q3 : sm_get lv 3 = some (.int ex)) (q4 : sm_get lv 4 = some (.int (nI 1))) (q5 : sm_get lv 5 = some (.int (nI tn))) (mtn : tn < 1000000001) (b1 : tn < 1000000000) (ma : a < 2 ^ 20) (c1 : Ans (d + 8) 127 [.ref 52] S (some (.int (nI a))) S1) (b2 : 15 < a) (b3 : 24 < a) (b4 : a ≤ 43) (c2 : Ans (d + 8) 189 [.ref 53, .int (nI a)] S1 (some (.int rb)) S2) (w9 : sm_c1 .ne rb true false = true) (c3 : Ans (d + 8) 266 [.ref 52, .int rb] S2 (some (.int (nI 0))) S3) (hB : ∀ lv1 : sm_L, sm_get lv1 0 = some (.ref 52) → sm_get lv1 3 = some (.int rb) → sm_get lv1 4 = some (.int (nI 0)) → sm_get lv1 5 = some (.int (nI (tn + 1))) → Bod (d + 8) 126 28 lv1 [] (S3) v Sf) : Bod (d + 8) 126 28 lv [] S v Sf := by
  refine Bod.ildG dc_126_28 (by repeat (first | exact q4 | exact sm_get_p1 | exact sm_get_p2e | refine sm_get_p1m (by decide) (by decide) ?_ | refine sm_get_p1n (by decide) rfl ?_ | refine sm_get_p2n (by decide) (by decide) rfl ?_)) ?_
  refine Bod.ifF dc_126_30 rfl (k1_eq_F (k_ne 1 0 rfl rfl (by omega) (by omega) (by omega))) ?_
  refine Bod.ildG dc_126_33 (by repeat (first | exact q5 | exact sm_get_p1 | exact sm_get_p2e | refine sm_get_p1m (by decide) (by decide) ?_ | refine sm_get_p1n (by decide) rfl ?_ | refine sm_get_p2n (by decide) (by decide) rfl ?_)) ?_
  refine Bod.ldcN 1000000000 (by decide) dc_126_35 ci_126_81 ?_
  refine Bod.icF dc_126_37 rfl (k2_ge_F tn 1000000000 rfl rfl (by omega) (by omega)) ?_
  refine Bod.aldnG dc_126_40 (by repeat (first | exact q0 | exact sm_get_p1 | exact sm_get_p2e | refine sm_get_p1m (by decide) (by decide) ?_ | refine sm_get_p1n (by decide) rfl ?_ | refine sm_get_p2n (by decide) (by decide) rfl ?_)) ?_
  refine Bod.virt (r := []) dc_126_41 kr_126_82 ⟨Or.inl rfl, ow_127, cl_4⟩ (by rw [np_127]; rfl) (by rw [np_127]; rfl) (ob_of (mk_52 _)) (Nat.le_of_ble_eq_true rfl) (c1  ) ?_
  show Bod _ _ _ _ [_] _ _ _
  refine Bod.ist dc_126_44 (by rw [ml_126]; exact Nat.le_of_ble_eq_true rfl) ?_
  refine Bod.ildG dc_126_46 (by repeat (first | exact q0 | exact sm_get_p1 | exact sm_get_p2e | refine sm_get_p1m (by decide) (by decide) ?_ | refine sm_get_p1n (by decide) rfl ?_ | refine sm_get_p2n (by decide) (by decide) rfl ?_)) ?_
  refine Bod.bip 15 (by decide) dc_126_48 ?_
  refine Bod.icT dc_126_50 rfl (k2_gt_T a 15 rfl rfl (by omega) (by omega)) ?_
  refine Bod.ildG dc_126_63 (by repeat (first | exact q0 | exact sm_get_p1 | exact sm_get_p2e | refine sm_get_p1m (by decide) (by decide) ?_ | refine sm_get_p1n (by decide) rfl ?_ | refine sm_get_p2n (by decide) (by decide) rfl ?_)) ?_
  refine Bod.bip 24 (by decide) dc_126_65 ?_
  refine Bod.icT dc_126_67 rfl (k2_gt_T a 24 rfl rfl (by omega) (by omega)) ?_
  refine Bod.ildG dc_126_80 (by repeat (first | exact q0 | exact sm_get_p1 | exact sm_get_p2e | refine sm_get_p1m (by decide) (by decide) ?_ | refine sm_get_p1n (by decide) rfl ?_ | refine sm_get_p2n (by decide) (by decide) rfl ?_)) ?_
  refine Bod.bip 43 (by decide) dc_126_82 ?_
  refine Bod.icF dc_126_84 rfl (k2_gt_F a 43 rfl rfl (by omega) (by omega)) ?_
  refine Bod.aldnG dc_126_87 (by repeat (first | exact q0 | exact sm_get_p1 | exact sm_get_p2e | refine sm_get_p1m (by decide) (by decide) ?_ | refine sm_get_p1n (by decide) rfl ?_ | refine sm_get_p2n (by decide) (by decide) rfl ?_)) ?_
  refine Bod.get dc_126_88 fr_126_36 (mk_52 _) rfl ?_
  refine Bod.ildG dc_126_91 (by repeat (first | exact q0 | exact sm_get_p1 | exact sm_get_p2e | refine sm_get_p1m (by decide) (by decide) ?_ | refine sm_get_p1n (by decide) rfl ?_ | refine sm_get_p2n (by decide) (by decide) rfl ?_)) ?_
  refine Bod.virt (r := []) dc_126_93 kr_126_95 ⟨Or.inr rfl, ow_189, cl_6⟩ (by rw [np_189]; rfl) (by rw [np_189]; rfl) (ob_of (mk_53 _)) (Nat.le_of_ble_eq_true rfl) (c2  ) ?_
  show Bod _ _ _ _ [_] _ _ _
  refine Bod.istn dc_126_96 (by rw [ml_126]; exact Nat.le_of_ble_eq_true rfl) ?_
  refine Bod.go dc_126_97 rfl ?_
  refine Bod.ildnG dc_126_158 (by repeat (first | exact q0 | exact sm_get_p1 | exact sm_get_p2e | refine sm_get_p1m (by decide) (by decide) ?_ | refine sm_get_p1n (by decide) rfl ?_ | refine sm_get_p2n (by decide) (by decide) rfl ?_)) ?_
  refine Bod.ifT dc_126_159 rfl w9 ?_
  refine Bod.aldnG dc_126_175 (by repeat (first | exact q0 | exact sm_get_p1 | exact sm_get_p2e | refine sm_get_p1m (by decide) (by decide) ?_ | refine sm_get_p1n (by decide) rfl ?_ | refine sm_get_p2n (by decide) (by decide) rfl ?_)) ?_
  refine Bod.ildnG dc_126_176 (by repeat (first | exact q0 | exact sm_get_p1 | exact sm_get_p2e | refine sm_get_p1m (by decide) (by decide) ?_ | refine sm_get_p1n (by decide) rfl ?_ | refine sm_get_p2n (by decide) (by decide) rfl ?_)) ?_
  refine Bod.virt (r := []) dc_126_177 kr_126_114 ⟨Or.inl rfl, ow_266, cl_4⟩ (by rw [np_266]; rfl) (by rw [np_266]; rfl) (ob_of (mk_52 _)) (Nat.le_of_ble_eq_true rfl) (c3  ) ?_
  show Bod _ _ _ _ [_] _ _ _
  refine Bod.ist dc_126_180 (by rw [ml_126]; exact Nat.le_of_ble_eq_true rfl) ?_
  refine Bod.incN (tn + 1) (by rw [kc_1, nI_add]) dc_126_182 (by rw [ml_126]; exact Nat.le_of_ble_eq_true rfl) (by repeat (first | exact q5 | exact sm_get_p1 | exact sm_get_p2e | refine sm_get_p1m (by decide) (by decide) ?_ | refine sm_get_p1n (by decide) rfl ?_ | refine sm_get_p2n (by decide) (by decide) rfl ?_)) ?_
  refine Bod.go dc_126_185 rfl ?_
  exact hB _ (by repeat (first | exact q0 | exact sm_get_p1 | exact sm_get_p2e | refine sm_get_p1m (by decide) (by decide) ?_ | refine sm_get_p1n (by decide) rfl ?_ | refine sm_get_p2n (by decide) (by decide) rfl ?_)) (by repeat (first | exact q0 | exact sm_get_p1 | exact sm_get_p2e | refine sm_get_p1m (by decide) (by decide) ?_ | refine sm_get_p1n (by decide) rfl ?_ | refine sm_get_p2n (by decide) (by decide) rfl ?_)) (by repeat (first | exact q0 | exact sm_get_p1 | exact sm_get_p2e | refine sm_get_p1m (by decide) (by decide) ?_ | refine sm_get_p1n (by decide) rfl ?_ | refine sm_get_p2n (by decide) (by decide) rfl ?_)) (by repeat (first | exact q0 | exact sm_get_p1 | exact sm_get_p2e | refine sm_get_p1m (by decide) (by decide) ?_ | refine sm_get_p1n (by decide) rfl ?_ | refine sm_get_p2n (by decide) (by decide) rfl ?_))
theorem mPfL_16 {d : Nat} {S Sf : cS} {v : Option Value} {lv : sm_L} {ex : Int32} {tn : Nat} {S1 : cS} {a : Nat} {S2 : cS} {rb : Int32} (q0 : sm_get lv 0 = some (.ref 52)) (q3 : sm_get lv 3 = some (.int ex)) (q4 : sm_get lv 4 = some (.int (nI 1))) (q5 : sm_get lv 5 = some (.int (nI tn))) (mtn : tn < 1000000001) (b1 : tn < 1000000000) (ma : a < 2 ^ 20) (c1 : Ans (d + 8) 127 [.ref 52] S (some (.int (nI a))) S1) (b2 : 15 < a) (b3 : 24 < a) (b4 : a ≤ 43) (c2 : Ans (d + 8) 189 [.ref 53, .int (nI a)] S1 (some (.int rb)) S2) (w9 : sm_c1 .ne rb true false = false) (b5 : a = 0) (hB : ∀ lv1 : sm_L, sm_get lv1 0 = some (.ref 52) → sm_get lv1 3 = some (.int rb) → sm_get lv1 4 = some (.int (nI 0)) → sm_get lv1 5 = some (.int (nI (tn + 1))) → Bod (d + 8) 126 28 lv1 [] (S2) v Sf) : Bod (d + 8) 126 28 lv [] S v Sf := by
  refine Bod.ildG dc_126_28 (by repeat (first | exact q4 | exact sm_get_p1 | exact sm_get_p2e | refine sm_get_p1m (by decide) (by decide) ?_ | refine sm_get_p1n (by decide) rfl ?_ | refine sm_get_p2n (by decide) (by decide) rfl ?_)) ?_
  refine Bod.ifF dc_126_30 rfl (k1_eq_F (k_ne 1 0 rfl rfl (by omega) (by omega) (by omega))) ?_
  refine Bod.ildG dc_126_33 (by repeat (first | exact q5 | exact sm_get_p1 | exact sm_get_p2e | refine sm_get_p1m (by decide) (by decide) ?_ | refine sm_get_p1n (by decide) rfl ?_ | refine sm_get_p2n (by decide) (by decide) rfl ?_)) ?_
  refine Bod.ldcN 1000000000 (by decide) dc_126_35 ci_126_81 ?_
  refine Bod.icF dc_126_37 rfl (k2_ge_F tn 1000000000 rfl rfl (by omega) (by omega)) ?_
  refine Bod.aldnG dc_126_40 (by repeat (first | exact q0 | exact sm_get_p1 | exact sm_get_p2e | refine sm_get_p1m (by decide) (by decide) ?_ | refine sm_get_p1n (by decide) rfl ?_ | refine sm_get_p2n (by decide) (by decide) rfl ?_)) ?_
  refine Bod.virt (r := []) dc_126_41 kr_126_82 ⟨Or.inl rfl, ow_127, cl_4⟩ (by rw [np_127]; rfl) (by rw [np_127]; rfl) (ob_of (mk_52 _)) (Nat.le_of_ble_eq_true rfl) (c1  ) ?_
  show Bod _ _ _ _ [_] _ _ _
  refine Bod.ist dc_126_44 (by rw [ml_126]; exact Nat.le_of_ble_eq_true rfl) ?_
  refine Bod.ildG dc_126_46 (by repeat (first | exact q0 | exact sm_get_p1 | exact sm_get_p2e | refine sm_get_p1m (by decide) (by decide) ?_ | refine sm_get_p1n (by decide) rfl ?_ | refine sm_get_p2n (by decide) (by decide) rfl ?_)) ?_
  refine Bod.bip 15 (by decide) dc_126_48 ?_
  refine Bod.icT dc_126_50 rfl (k2_gt_T a 15 rfl rfl (by omega) (by omega)) ?_
  refine Bod.ildG dc_126_63 (by repeat (first | exact q0 | exact sm_get_p1 | exact sm_get_p2e | refine sm_get_p1m (by decide) (by decide) ?_ | refine sm_get_p1n (by decide) rfl ?_ | refine sm_get_p2n (by decide) (by decide) rfl ?_)) ?_
  refine Bod.bip 24 (by decide) dc_126_65 ?_
  refine Bod.icT dc_126_67 rfl (k2_gt_T a 24 rfl rfl (by omega) (by omega)) ?_
  refine Bod.ildG dc_126_80 (by repeat (first | exact q0 | exact sm_get_p1 | exact sm_get_p2e | refine sm_get_p1m (by decide) (by decide) ?_ | refine sm_get_p1n (by decide) rfl ?_ | refine sm_get_p2n (by decide) (by decide) rfl ?_)) ?_
  refine Bod.bip 43 (by decide) dc_126_82 ?_
  refine Bod.icF dc_126_84 rfl (k2_gt_F a 43 rfl rfl (by omega) (by omega)) ?_
  refine Bod.aldnG dc_126_87 (by repeat (first | exact q0 | exact sm_get_p1 | exact sm_get_p2e | refine sm_get_p1m (by decide) (by decide) ?_ | refine sm_get_p1n (by decide) rfl ?_ | refine sm_get_p2n (by decide) (by decide) rfl ?_)) ?_
  refine Bod.get dc_126_88 fr_126_36 (mk_52 _) rfl ?_
  refine Bod.ildG dc_126_91 (by repeat (first | exact q0 | exact sm_get_p1 | exact sm_get_p2e | refine sm_get_p1m (by decide) (by decide) ?_ | refine sm_get_p1n (by decide) rfl ?_ | refine sm_get_p2n (by decide) (by decide) rfl ?_)) ?_
  refine Bod.virt (r := []) dc_126_93 kr_126_95 ⟨Or.inr rfl, ow_189, cl_6⟩ (by rw [np_189]; rfl) (by rw [np_189]; rfl) (ob_of (mk_53 _)) (Nat.le_of_ble_eq_true rfl) (c2  ) ?_
  show Bod _ _ _ _ [_] _ _ _
  refine Bod.istn dc_126_96 (by rw [ml_126]; exact Nat.le_of_ble_eq_true rfl) ?_
  refine Bod.go dc_126_97 rfl ?_
  refine Bod.ildnG dc_126_158 (by repeat (first | exact q0 | exact sm_get_p1 | exact sm_get_p2e | refine sm_get_p1m (by decide) (by decide) ?_ | refine sm_get_p1n (by decide) rfl ?_ | refine sm_get_p2n (by decide) (by decide) rfl ?_)) ?_
  refine Bod.ifF dc_126_159 rfl w9 ?_
  refine Bod.ildG dc_126_162 (by repeat (first | exact q0 | exact sm_get_p1 | exact sm_get_p2e | refine sm_get_p1m (by decide) (by decide) ?_ | refine sm_get_p1n (by decide) rfl ?_ | refine sm_get_p2n (by decide) (by decide) rfl ?_)) ?_
  refine Bod.ifT dc_126_164 rfl (k1_eq_T (k_eq a 0 rfl rfl (by omega))) ?_
  refine Bod.ic 0 (by decide) dc_126_171 ?_
  refine Bod.go dc_126_172 rfl ?_
  refine Bod.ist dc_126_180 (by rw [ml_126]; exact Nat.le_of_ble_eq_true rfl) ?_
  refine Bod.incN (tn + 1) (by rw [kc_1, nI_add]) dc_126_182 (by rw [ml_126]; exact Nat.le_of_ble_eq_true rfl) (by repeat (first | exact q5 | exact sm_get_p1 | exact sm_get_p2e | refine sm_get_p1m (by decide) (by decide) ?_ | refine sm_get_p1n (by decide) rfl ?_ | refine sm_get_p2n (by decide) (by decide) rfl ?_)) ?_
  refine Bod.go dc_126_185 rfl ?_
  exact hB _ (by repeat (first | exact q0 | exact sm_get_p1 | exact sm_get_p2e | refine sm_get_p1m (by decide) (by decide) ?_ | refine sm_get_p1n (by decide) rfl ?_ | refine sm_get_p2n (by decide) (by decide) rfl ?_)) (by repeat (first | exact q0 | exact sm_get_p1 | exact sm_get_p2e | refine sm_get_p1m (by decide) (by decide) ?_ | refine sm_get_p1n (by decide) rfl ?_ | refine sm_get_p2n (by decide) (by decide) rfl ?_)) (by repeat (first | exact q0 | exact sm_get_p1 | exact sm_get_p2e | refine sm_get_p1m (by decide) (by decide) ?_ | refine sm_get_p1n (by decide) rfl ?_ | refine sm_get_p2n (by decide) (by decide) rfl ?_)) (by repeat (first | exact q0 | exact sm_get_p1 | exact sm_get_p2e | refine sm_get_p1m (by decide) (by decide) ?_ | refine sm_get_p1n (by decide) rfl ?_ | refine sm_get_p2n (by decide) (by decide) rfl ?_))
theorem mPfL_17 {d : Nat} {S Sf : cS} {v : Option Value} {lv : sm_L} {ex : Int32} {tn : Nat} {S1 : cS} {a : Nat} {S2 : cS} {rb : Int32} (q0 : sm_get lv 0 = some (.ref 52)) (q3 : sm_get lv 3 = some (.int ex)) (q4 : sm_get lv 4 = some (.int (nI 1))) (q5 : sm_get lv 5 = some (.int (nI tn))) (mtn : tn < 1000000001) (b1 : tn < 1000000000) (ma : a < 2 ^ 20) (c1 : Ans (d + 8) 127 [.ref 52] S (some (.int (nI a))) S1) (b2 : 15 < a) (b3 : 24 < a) (b4 : a ≤ 43) (c2 : Ans (d + 8) 189 [.ref 53, .int (nI a)] S1 (some (.int rb)) S2) (w9 : sm_c1 .ne rb true false = false) (b5 : a ≠ 0) (hB : ∀ lv1 : sm_L, sm_get lv1 0 = some (.ref 52) → sm_get lv1 3 = some (.int rb) → sm_get lv1 4 = some (.int (nI 1)) → sm_get lv1 5 = some (.int (nI (tn + 1))) → Bod (d + 8) 126 28 lv1 [] (S2) v Sf) : Bod (d + 8) 126 28 lv [] S v Sf := by
  refine Bod.ildG dc_126_28 (by repeat (first | exact q4 | exact sm_get_p1 | exact sm_get_p2e | refine sm_get_p1m (by decide) (by decide) ?_ | refine sm_get_p1n (by decide) rfl ?_ | refine sm_get_p2n (by decide) (by decide) rfl ?_)) ?_
  refine Bod.ifF dc_126_30 rfl (k1_eq_F (k_ne 1 0 rfl rfl (by omega) (by omega) (by omega))) ?_
  refine Bod.ildG dc_126_33 (by repeat (first | exact q5 | exact sm_get_p1 | exact sm_get_p2e | refine sm_get_p1m (by decide) (by decide) ?_ | refine sm_get_p1n (by decide) rfl ?_ | refine sm_get_p2n (by decide) (by decide) rfl ?_)) ?_
  refine Bod.ldcN 1000000000 (by decide) dc_126_35 ci_126_81 ?_
  refine Bod.icF dc_126_37 rfl (k2_ge_F tn 1000000000 rfl rfl (by omega) (by omega)) ?_
  refine Bod.aldnG dc_126_40 (by repeat (first | exact q0 | exact sm_get_p1 | exact sm_get_p2e | refine sm_get_p1m (by decide) (by decide) ?_ | refine sm_get_p1n (by decide) rfl ?_ | refine sm_get_p2n (by decide) (by decide) rfl ?_)) ?_
  refine Bod.virt (r := []) dc_126_41 kr_126_82 ⟨Or.inl rfl, ow_127, cl_4⟩ (by rw [np_127]; rfl) (by rw [np_127]; rfl) (ob_of (mk_52 _)) (Nat.le_of_ble_eq_true rfl) (c1  ) ?_
  show Bod _ _ _ _ [_] _ _ _
  refine Bod.ist dc_126_44 (by rw [ml_126]; exact Nat.le_of_ble_eq_true rfl) ?_
  refine Bod.ildG dc_126_46 (by repeat (first | exact q0 | exact sm_get_p1 | exact sm_get_p2e | refine sm_get_p1m (by decide) (by decide) ?_ | refine sm_get_p1n (by decide) rfl ?_ | refine sm_get_p2n (by decide) (by decide) rfl ?_)) ?_
  refine Bod.bip 15 (by decide) dc_126_48 ?_
  refine Bod.icT dc_126_50 rfl (k2_gt_T a 15 rfl rfl (by omega) (by omega)) ?_
  refine Bod.ildG dc_126_63 (by repeat (first | exact q0 | exact sm_get_p1 | exact sm_get_p2e | refine sm_get_p1m (by decide) (by decide) ?_ | refine sm_get_p1n (by decide) rfl ?_ | refine sm_get_p2n (by decide) (by decide) rfl ?_)) ?_
  refine Bod.bip 24 (by decide) dc_126_65 ?_
  refine Bod.icT dc_126_67 rfl (k2_gt_T a 24 rfl rfl (by omega) (by omega)) ?_
  refine Bod.ildG dc_126_80 (by repeat (first | exact q0 | exact sm_get_p1 | exact sm_get_p2e | refine sm_get_p1m (by decide) (by decide) ?_ | refine sm_get_p1n (by decide) rfl ?_ | refine sm_get_p2n (by decide) (by decide) rfl ?_)) ?_
  refine Bod.bip 43 (by decide) dc_126_82 ?_
  refine Bod.icF dc_126_84 rfl (k2_gt_F a 43 rfl rfl (by omega) (by omega)) ?_
  refine Bod.aldnG dc_126_87 (by repeat (first | exact q0 | exact sm_get_p1 | exact sm_get_p2e | refine sm_get_p1m (by decide) (by decide) ?_ | refine sm_get_p1n (by decide) rfl ?_ | refine sm_get_p2n (by decide) (by decide) rfl ?_)) ?_
  refine Bod.get dc_126_88 fr_126_36 (mk_52 _) rfl ?_
  refine Bod.ildG dc_126_91 (by repeat (first | exact q0 | exact sm_get_p1 | exact sm_get_p2e | refine sm_get_p1m (by decide) (by decide) ?_ | refine sm_get_p1n (by decide) rfl ?_ | refine sm_get_p2n (by decide) (by decide) rfl ?_)) ?_
  refine Bod.virt (r := []) dc_126_93 kr_126_95 ⟨Or.inr rfl, ow_189, cl_6⟩ (by rw [np_189]; rfl) (by rw [np_189]; rfl) (ob_of (mk_53 _)) (Nat.le_of_ble_eq_true rfl) (c2  ) ?_
  show Bod _ _ _ _ [_] _ _ _
  refine Bod.istn dc_126_96 (by rw [ml_126]; exact Nat.le_of_ble_eq_true rfl) ?_
  refine Bod.go dc_126_97 rfl ?_
  refine Bod.ildnG dc_126_158 (by repeat (first | exact q0 | exact sm_get_p1 | exact sm_get_p2e | refine sm_get_p1m (by decide) (by decide) ?_ | refine sm_get_p1n (by decide) rfl ?_ | refine sm_get_p2n (by decide) (by decide) rfl ?_)) ?_
  refine Bod.ifF dc_126_159 rfl w9 ?_
  refine Bod.ildG dc_126_162 (by repeat (first | exact q0 | exact sm_get_p1 | exact sm_get_p2e | refine sm_get_p1m (by decide) (by decide) ?_ | refine sm_get_p1n (by decide) rfl ?_ | refine sm_get_p2n (by decide) (by decide) rfl ?_)) ?_
  refine Bod.ifF dc_126_164 rfl (k1_eq_F (k_ne a 0 rfl rfl (by omega) (by omega) (by omega))) ?_
  refine Bod.ic 1 (by decide) dc_126_167 ?_
  refine Bod.go dc_126_168 rfl ?_
  refine Bod.ist dc_126_180 (by rw [ml_126]; exact Nat.le_of_ble_eq_true rfl) ?_
  refine Bod.incN (tn + 1) (by rw [kc_1, nI_add]) dc_126_182 (by rw [ml_126]; exact Nat.le_of_ble_eq_true rfl) (by repeat (first | exact q5 | exact sm_get_p1 | exact sm_get_p2e | refine sm_get_p1m (by decide) (by decide) ?_ | refine sm_get_p1n (by decide) rfl ?_ | refine sm_get_p2n (by decide) (by decide) rfl ?_)) ?_
  refine Bod.go dc_126_185 rfl ?_
  exact hB _ (by repeat (first | exact q0 | exact sm_get_p1 | exact sm_get_p2e | refine sm_get_p1m (by decide) (by decide) ?_ | refine sm_get_p1n (by decide) rfl ?_ | refine sm_get_p2n (by decide) (by decide) rfl ?_)) (by repeat (first | exact q0 | exact sm_get_p1 | exact sm_get_p2e | refine sm_get_p1m (by decide) (by decide) ?_ | refine sm_get_p1n (by decide) rfl ?_ | refine sm_get_p2n (by decide) (by decide) rfl ?_)) (by repeat (first | exact q0 | exact sm_get_p1 | exact sm_get_p2e | refine sm_get_p1m (by decide) (by decide) ?_ | refine sm_get_p1n (by decide) rfl ?_ | refine sm_get_p2n (by decide) (by decide) rfl ?_)) (by repeat (first | exact q0 | exact sm_get_p1 | exact sm_get_p2e | refine sm_get_p1m (by decide) (by decide) ?_ | refine sm_get_p1n (by decide) rfl ?_ | refine sm_get_p2n (by decide) (by decide) rfl ?_))
theorem mPfL_18 {d : Nat} {S Sf : cS} {v : Option Value} {lv : sm_L} {ex : Int32} {tn : Nat} {S1 : cS} {a : Nat} {S2 : cS} {rb : Int32} {S3 : cS} (q0 : sm_get lv 0 = some (.ref 52)) (q3 : sm_get lv 3 = some (.int ex)) (q4 : sm_get lv 4 = some (.int (nI 1))) (q5 : sm_get lv 5 = some (.int (nI tn))) (mtn : tn < 1000000001) (b1 : tn < 1000000000) (ma : a < 2 ^ 20) (c1 : Ans (d + 8) 127 [.ref 52] S (some (.int (nI a))) S1) (b2 : 15 < a) (b3 : a ≤ 24) (c2 : Ans (d + 8) 161 [.ref 52, .int (nI a)] S1 (some (.int rb)) S2) (w8 : sm_c1 .ne rb true false = true) (c3 : Ans (d + 8) 266 [.ref 52, .int rb] S2 (some (.int (nI 1))) S3) (hB : ∀ lv1 : sm_L, sm_get lv1 0 = some (.ref 52) → sm_get lv1 3 = some (.int rb) → sm_get lv1 4 = some (.int (nI 1)) → sm_get lv1 5 = some (.int (nI (tn + 1))) → Bod (d + 8) 126 28 lv1 [] (S3) v Sf) : Bod (d + 8) 126 28 lv [] S v Sf := by
  refine Bod.ildG dc_126_28 (by repeat (first | exact q4 | exact sm_get_p1 | exact sm_get_p2e | refine sm_get_p1m (by decide) (by decide) ?_ | refine sm_get_p1n (by decide) rfl ?_ | refine sm_get_p2n (by decide) (by decide) rfl ?_)) ?_
  refine Bod.ifF dc_126_30 rfl (k1_eq_F (k_ne 1 0 rfl rfl (by omega) (by omega) (by omega))) ?_
  refine Bod.ildG dc_126_33 (by repeat (first | exact q5 | exact sm_get_p1 | exact sm_get_p2e | refine sm_get_p1m (by decide) (by decide) ?_ | refine sm_get_p1n (by decide) rfl ?_ | refine sm_get_p2n (by decide) (by decide) rfl ?_)) ?_
  refine Bod.ldcN 1000000000 (by decide) dc_126_35 ci_126_81 ?_
  refine Bod.icF dc_126_37 rfl (k2_ge_F tn 1000000000 rfl rfl (by omega) (by omega)) ?_
  refine Bod.aldnG dc_126_40 (by repeat (first | exact q0 | exact sm_get_p1 | exact sm_get_p2e | refine sm_get_p1m (by decide) (by decide) ?_ | refine sm_get_p1n (by decide) rfl ?_ | refine sm_get_p2n (by decide) (by decide) rfl ?_)) ?_
  refine Bod.virt (r := []) dc_126_41 kr_126_82 ⟨Or.inl rfl, ow_127, cl_4⟩ (by rw [np_127]; rfl) (by rw [np_127]; rfl) (ob_of (mk_52 _)) (Nat.le_of_ble_eq_true rfl) (c1  ) ?_
  show Bod _ _ _ _ [_] _ _ _
  refine Bod.ist dc_126_44 (by rw [ml_126]; exact Nat.le_of_ble_eq_true rfl) ?_
  refine Bod.ildG dc_126_46 (by repeat (first | exact q0 | exact sm_get_p1 | exact sm_get_p2e | refine sm_get_p1m (by decide) (by decide) ?_ | refine sm_get_p1n (by decide) rfl ?_ | refine sm_get_p2n (by decide) (by decide) rfl ?_)) ?_
  refine Bod.bip 15 (by decide) dc_126_48 ?_
  refine Bod.icT dc_126_50 rfl (k2_gt_T a 15 rfl rfl (by omega) (by omega)) ?_
  refine Bod.ildG dc_126_63 (by repeat (first | exact q0 | exact sm_get_p1 | exact sm_get_p2e | refine sm_get_p1m (by decide) (by decide) ?_ | refine sm_get_p1n (by decide) rfl ?_ | refine sm_get_p2n (by decide) (by decide) rfl ?_)) ?_
  refine Bod.bip 24 (by decide) dc_126_65 ?_
  refine Bod.icF dc_126_67 rfl (k2_gt_F a 24 rfl rfl (by omega) (by omega)) ?_
  refine Bod.aldnG dc_126_70 (by repeat (first | exact q0 | exact sm_get_p1 | exact sm_get_p2e | refine sm_get_p1m (by decide) (by decide) ?_ | refine sm_get_p1n (by decide) rfl ?_ | refine sm_get_p2n (by decide) (by decide) rfl ?_)) ?_
  refine Bod.ildG dc_126_71 (by repeat (first | exact q0 | exact sm_get_p1 | exact sm_get_p2e | refine sm_get_p1m (by decide) (by decide) ?_ | refine sm_get_p1n (by decide) rfl ?_ | refine sm_get_p2n (by decide) (by decide) rfl ?_)) ?_
  refine Bod.virt (r := []) dc_126_73 kr_126_92 ⟨Or.inl rfl, ow_161, cl_4⟩ (by rw [np_161]; rfl) (by rw [np_161]; rfl) (ob_of (mk_52 _)) (Nat.le_of_ble_eq_true rfl) (c2  ) ?_
  show Bod _ _ _ _ [_] _ _ _
  refine Bod.istn dc_126_76 (by rw [ml_126]; exact Nat.le_of_ble_eq_true rfl) ?_
  refine Bod.go dc_126_77 rfl ?_
  refine Bod.ildnG dc_126_158 (by repeat (first | exact q0 | exact sm_get_p1 | exact sm_get_p2e | refine sm_get_p1m (by decide) (by decide) ?_ | refine sm_get_p1n (by decide) rfl ?_ | refine sm_get_p2n (by decide) (by decide) rfl ?_)) ?_
  refine Bod.ifT dc_126_159 rfl w8 ?_
  refine Bod.aldnG dc_126_175 (by repeat (first | exact q0 | exact sm_get_p1 | exact sm_get_p2e | refine sm_get_p1m (by decide) (by decide) ?_ | refine sm_get_p1n (by decide) rfl ?_ | refine sm_get_p2n (by decide) (by decide) rfl ?_)) ?_
  refine Bod.ildnG dc_126_176 (by repeat (first | exact q0 | exact sm_get_p1 | exact sm_get_p2e | refine sm_get_p1m (by decide) (by decide) ?_ | refine sm_get_p1n (by decide) rfl ?_ | refine sm_get_p2n (by decide) (by decide) rfl ?_)) ?_
  refine Bod.virt (r := []) dc_126_177 kr_126_114 ⟨Or.inl rfl, ow_266, cl_4⟩ (by rw [np_266]; rfl) (by rw [np_266]; rfl) (ob_of (mk_52 _)) (Nat.le_of_ble_eq_true rfl) (c3  ) ?_
  show Bod _ _ _ _ [_] _ _ _
  refine Bod.ist dc_126_180 (by rw [ml_126]; exact Nat.le_of_ble_eq_true rfl) ?_
  refine Bod.incN (tn + 1) (by rw [kc_1, nI_add]) dc_126_182 (by rw [ml_126]; exact Nat.le_of_ble_eq_true rfl) (by repeat (first | exact q5 | exact sm_get_p1 | exact sm_get_p2e | refine sm_get_p1m (by decide) (by decide) ?_ | refine sm_get_p1n (by decide) rfl ?_ | refine sm_get_p2n (by decide) (by decide) rfl ?_)) ?_
  refine Bod.go dc_126_185 rfl ?_
  exact hB _ (by repeat (first | exact q0 | exact sm_get_p1 | exact sm_get_p2e | refine sm_get_p1m (by decide) (by decide) ?_ | refine sm_get_p1n (by decide) rfl ?_ | refine sm_get_p2n (by decide) (by decide) rfl ?_)) (by repeat (first | exact q0 | exact sm_get_p1 | exact sm_get_p2e | refine sm_get_p1m (by decide) (by decide) ?_ | refine sm_get_p1n (by decide) rfl ?_ | refine sm_get_p2n (by decide) (by decide) rfl ?_)) (by repeat (first | exact q0 | exact sm_get_p1 | exact sm_get_p2e | refine sm_get_p1m (by decide) (by decide) ?_ | refine sm_get_p1n (by decide) rfl ?_ | refine sm_get_p2n (by decide) (by decide) rfl ?_)) (by repeat (first | exact q0 | exact sm_get_p1 | exact sm_get_p2e | refine sm_get_p1m (by decide) (by decide) ?_ | refine sm_get_p1n (by decide) rfl ?_ | refine sm_get_p2n (by decide) (by decide) rfl ?_))
theorem mPfL_19 {d : Nat} {S Sf : cS} {v : Option Value} {lv : sm_L} {ex : Int32} {tn : Nat} {S1 : cS} {a : Nat} {S2 : cS} {rb : Int32} {S3 : cS} (q0 : sm_get lv 0 = some (.ref 52)) (q3 : sm_get lv 3 = some (.int ex)) (q4 : sm_get lv 4 = some (.int (nI 1))) (q5 : sm_get lv 5 = some (.int (nI tn))) (mtn : tn < 1000000001) (b1 : tn < 1000000000) (ma : a < 2 ^ 20) (c1 : Ans (d + 8) 127 [.ref 52] S (some (.int (nI a))) S1) (b2 : 15 < a) (b3 : a ≤ 24) (c2 : Ans (d + 8) 161 [.ref 52, .int (nI a)] S1 (some (.int rb)) S2) (w8 : sm_c1 .ne rb true false = true) (c3 : Ans (d + 8) 266 [.ref 52, .int rb] S2 (some (.int (nI 0))) S3) (hB : ∀ lv1 : sm_L, sm_get lv1 0 = some (.ref 52) → sm_get lv1 3 = some (.int rb) → sm_get lv1 4 = some (.int (nI 0)) → sm_get lv1 5 = some (.int (nI (tn + 1))) → Bod (d + 8) 126 28 lv1 [] (S3) v Sf) : Bod (d + 8) 126 28 lv [] S v Sf := by
  refine Bod.ildG dc_126_28 (by repeat (first | exact q4 | exact sm_get_p1 | exact sm_get_p2e | refine sm_get_p1m (by decide) (by decide) ?_ | refine sm_get_p1n (by decide) rfl ?_ | refine sm_get_p2n (by decide) (by decide) rfl ?_)) ?_
  refine Bod.ifF dc_126_30 rfl (k1_eq_F (k_ne 1 0 rfl rfl (by omega) (by omega) (by omega))) ?_
  refine Bod.ildG dc_126_33 (by repeat (first | exact q5 | exact sm_get_p1 | exact sm_get_p2e | refine sm_get_p1m (by decide) (by decide) ?_ | refine sm_get_p1n (by decide) rfl ?_ | refine sm_get_p2n (by decide) (by decide) rfl ?_)) ?_
  refine Bod.ldcN 1000000000 (by decide) dc_126_35 ci_126_81 ?_
  refine Bod.icF dc_126_37 rfl (k2_ge_F tn 1000000000 rfl rfl (by omega) (by omega)) ?_
  refine Bod.aldnG dc_126_40 (by repeat (first | exact q0 | exact sm_get_p1 | exact sm_get_p2e | refine sm_get_p1m (by decide) (by decide) ?_ | refine sm_get_p1n (by decide) rfl ?_ | refine sm_get_p2n (by decide) (by decide) rfl ?_)) ?_
  refine Bod.virt (r := []) dc_126_41 kr_126_82 ⟨Or.inl rfl, ow_127, cl_4⟩ (by rw [np_127]; rfl) (by rw [np_127]; rfl) (ob_of (mk_52 _)) (Nat.le_of_ble_eq_true rfl) (c1  ) ?_
  show Bod _ _ _ _ [_] _ _ _
  refine Bod.ist dc_126_44 (by rw [ml_126]; exact Nat.le_of_ble_eq_true rfl) ?_
  refine Bod.ildG dc_126_46 (by repeat (first | exact q0 | exact sm_get_p1 | exact sm_get_p2e | refine sm_get_p1m (by decide) (by decide) ?_ | refine sm_get_p1n (by decide) rfl ?_ | refine sm_get_p2n (by decide) (by decide) rfl ?_)) ?_
  refine Bod.bip 15 (by decide) dc_126_48 ?_
  refine Bod.icT dc_126_50 rfl (k2_gt_T a 15 rfl rfl (by omega) (by omega)) ?_
  refine Bod.ildG dc_126_63 (by repeat (first | exact q0 | exact sm_get_p1 | exact sm_get_p2e | refine sm_get_p1m (by decide) (by decide) ?_ | refine sm_get_p1n (by decide) rfl ?_ | refine sm_get_p2n (by decide) (by decide) rfl ?_)) ?_
  refine Bod.bip 24 (by decide) dc_126_65 ?_
  refine Bod.icF dc_126_67 rfl (k2_gt_F a 24 rfl rfl (by omega) (by omega)) ?_
  refine Bod.aldnG dc_126_70 (by repeat (first | exact q0 | exact sm_get_p1 | exact sm_get_p2e | refine sm_get_p1m (by decide) (by decide) ?_ | refine sm_get_p1n (by decide) rfl ?_ | refine sm_get_p2n (by decide) (by decide) rfl ?_)) ?_
  refine Bod.ildG dc_126_71 (by repeat (first | exact q0 | exact sm_get_p1 | exact sm_get_p2e | refine sm_get_p1m (by decide) (by decide) ?_ | refine sm_get_p1n (by decide) rfl ?_ | refine sm_get_p2n (by decide) (by decide) rfl ?_)) ?_
  refine Bod.virt (r := []) dc_126_73 kr_126_92 ⟨Or.inl rfl, ow_161, cl_4⟩ (by rw [np_161]; rfl) (by rw [np_161]; rfl) (ob_of (mk_52 _)) (Nat.le_of_ble_eq_true rfl) (c2  ) ?_
  show Bod _ _ _ _ [_] _ _ _
  refine Bod.istn dc_126_76 (by rw [ml_126]; exact Nat.le_of_ble_eq_true rfl) ?_
  refine Bod.go dc_126_77 rfl ?_
  refine Bod.ildnG dc_126_158 (by repeat (first | exact q0 | exact sm_get_p1 | exact sm_get_p2e | refine sm_get_p1m (by decide) (by decide) ?_ | refine sm_get_p1n (by decide) rfl ?_ | refine sm_get_p2n (by decide) (by decide) rfl ?_)) ?_
  refine Bod.ifT dc_126_159 rfl w8 ?_
  refine Bod.aldnG dc_126_175 (by repeat (first | exact q0 | exact sm_get_p1 | exact sm_get_p2e | refine sm_get_p1m (by decide) (by decide) ?_ | refine sm_get_p1n (by decide) rfl ?_ | refine sm_get_p2n (by decide) (by decide) rfl ?_)) ?_
  refine Bod.ildnG dc_126_176 (by repeat (first | exact q0 | exact sm_get_p1 | exact sm_get_p2e | refine sm_get_p1m (by decide) (by decide) ?_ | refine sm_get_p1n (by decide) rfl ?_ | refine sm_get_p2n (by decide) (by decide) rfl ?_)) ?_
  refine Bod.virt (r := []) dc_126_177 kr_126_114 ⟨Or.inl rfl, ow_266, cl_4⟩ (by rw [np_266]; rfl) (by rw [np_266]; rfl) (ob_of (mk_52 _)) (Nat.le_of_ble_eq_true rfl) (c3  ) ?_
  show Bod _ _ _ _ [_] _ _ _
  refine Bod.ist dc_126_180 (by rw [ml_126]; exact Nat.le_of_ble_eq_true rfl) ?_
  refine Bod.incN (tn + 1) (by rw [kc_1, nI_add]) dc_126_182 (by rw [ml_126]; exact Nat.le_of_ble_eq_true rfl) (by repeat (first | exact q5 | exact sm_get_p1 | exact sm_get_p2e | refine sm_get_p1m (by decide) (by decide) ?_ | refine sm_get_p1n (by decide) rfl ?_ | refine sm_get_p2n (by decide) (by decide) rfl ?_)) ?_
  refine Bod.go dc_126_185 rfl ?_
  exact hB _ (by repeat (first | exact q0 | exact sm_get_p1 | exact sm_get_p2e | refine sm_get_p1m (by decide) (by decide) ?_ | refine sm_get_p1n (by decide) rfl ?_ | refine sm_get_p2n (by decide) (by decide) rfl ?_)) (by repeat (first | exact q0 | exact sm_get_p1 | exact sm_get_p2e | refine sm_get_p1m (by decide) (by decide) ?_ | refine sm_get_p1n (by decide) rfl ?_ | refine sm_get_p2n (by decide) (by decide) rfl ?_)) (by repeat (first | exact q0 | exact sm_get_p1 | exact sm_get_p2e | refine sm_get_p1m (by decide) (by decide) ?_ | refine sm_get_p1n (by decide) rfl ?_ | refine sm_get_p2n (by decide) (by decide) rfl ?_)) (by repeat (first | exact q0 | exact sm_get_p1 | exact sm_get_p2e | refine sm_get_p1m (by decide) (by decide) ?_ | refine sm_get_p1n (by decide) rfl ?_ | refine sm_get_p2n (by decide) (by decide) rfl ?_))
theorem mPfL_20 {d : Nat} {S Sf : cS} {v : Option Value} {lv : sm_L} {ex : Int32} {tn : Nat} {S1 : cS} {a : Nat} {S2 : cS} {rb : Int32} (q0 : sm_get lv 0 = some (.ref 52)) (q3 : sm_get lv 3 = some (.int ex)) (q4 : sm_get lv 4 = some (.int (nI 1))) (q5 : sm_get lv 5 = some (.int (nI tn))) (mtn : tn < 1000000001) (b1 : tn < 1000000000) (ma : a < 2 ^ 20) (c1 : Ans (d + 8) 127 [.ref 52] S (some (.int (nI a))) S1) (b2 : 15 < a) (b3 : a ≤ 24) (c2 : Ans (d + 8) 161 [.ref 52, .int (nI a)] S1 (some (.int rb)) S2) (w8 : sm_c1 .ne rb true false = false) (b4 : a = 0) (hB : ∀ lv1 : sm_L, sm_get lv1 0 = some (.ref 52) → sm_get lv1 3 = some (.int rb) → sm_get lv1 4 = some (.int (nI 0)) → sm_get lv1 5 = some (.int (nI (tn + 1))) → Bod (d + 8) 126 28 lv1 [] (S2) v Sf) : Bod (d + 8) 126 28 lv [] S v Sf := by
  refine Bod.ildG dc_126_28 (by repeat (first | exact q4 | exact sm_get_p1 | exact sm_get_p2e | refine sm_get_p1m (by decide) (by decide) ?_ | refine sm_get_p1n (by decide) rfl ?_ | refine sm_get_p2n (by decide) (by decide) rfl ?_)) ?_
  refine Bod.ifF dc_126_30 rfl (k1_eq_F (k_ne 1 0 rfl rfl (by omega) (by omega) (by omega))) ?_
  refine Bod.ildG dc_126_33 (by repeat (first | exact q5 | exact sm_get_p1 | exact sm_get_p2e | refine sm_get_p1m (by decide) (by decide) ?_ | refine sm_get_p1n (by decide) rfl ?_ | refine sm_get_p2n (by decide) (by decide) rfl ?_)) ?_
  refine Bod.ldcN 1000000000 (by decide) dc_126_35 ci_126_81 ?_
  refine Bod.icF dc_126_37 rfl (k2_ge_F tn 1000000000 rfl rfl (by omega) (by omega)) ?_
  refine Bod.aldnG dc_126_40 (by repeat (first | exact q0 | exact sm_get_p1 | exact sm_get_p2e | refine sm_get_p1m (by decide) (by decide) ?_ | refine sm_get_p1n (by decide) rfl ?_ | refine sm_get_p2n (by decide) (by decide) rfl ?_)) ?_
  refine Bod.virt (r := []) dc_126_41 kr_126_82 ⟨Or.inl rfl, ow_127, cl_4⟩ (by rw [np_127]; rfl) (by rw [np_127]; rfl) (ob_of (mk_52 _)) (Nat.le_of_ble_eq_true rfl) (c1  ) ?_
  show Bod _ _ _ _ [_] _ _ _
  refine Bod.ist dc_126_44 (by rw [ml_126]; exact Nat.le_of_ble_eq_true rfl) ?_
  refine Bod.ildG dc_126_46 (by repeat (first | exact q0 | exact sm_get_p1 | exact sm_get_p2e | refine sm_get_p1m (by decide) (by decide) ?_ | refine sm_get_p1n (by decide) rfl ?_ | refine sm_get_p2n (by decide) (by decide) rfl ?_)) ?_
  refine Bod.bip 15 (by decide) dc_126_48 ?_
  refine Bod.icT dc_126_50 rfl (k2_gt_T a 15 rfl rfl (by omega) (by omega)) ?_
  refine Bod.ildG dc_126_63 (by repeat (first | exact q0 | exact sm_get_p1 | exact sm_get_p2e | refine sm_get_p1m (by decide) (by decide) ?_ | refine sm_get_p1n (by decide) rfl ?_ | refine sm_get_p2n (by decide) (by decide) rfl ?_)) ?_
  refine Bod.bip 24 (by decide) dc_126_65 ?_
  refine Bod.icF dc_126_67 rfl (k2_gt_F a 24 rfl rfl (by omega) (by omega)) ?_
  refine Bod.aldnG dc_126_70 (by repeat (first | exact q0 | exact sm_get_p1 | exact sm_get_p2e | refine sm_get_p1m (by decide) (by decide) ?_ | refine sm_get_p1n (by decide) rfl ?_ | refine sm_get_p2n (by decide) (by decide) rfl ?_)) ?_
  refine Bod.ildG dc_126_71 (by repeat (first | exact q0 | exact sm_get_p1 | exact sm_get_p2e | refine sm_get_p1m (by decide) (by decide) ?_ | refine sm_get_p1n (by decide) rfl ?_ | refine sm_get_p2n (by decide) (by decide) rfl ?_)) ?_
  refine Bod.virt (r := []) dc_126_73 kr_126_92 ⟨Or.inl rfl, ow_161, cl_4⟩ (by rw [np_161]; rfl) (by rw [np_161]; rfl) (ob_of (mk_52 _)) (Nat.le_of_ble_eq_true rfl) (c2  ) ?_
  show Bod _ _ _ _ [_] _ _ _
  refine Bod.istn dc_126_76 (by rw [ml_126]; exact Nat.le_of_ble_eq_true rfl) ?_
  refine Bod.go dc_126_77 rfl ?_
  refine Bod.ildnG dc_126_158 (by repeat (first | exact q0 | exact sm_get_p1 | exact sm_get_p2e | refine sm_get_p1m (by decide) (by decide) ?_ | refine sm_get_p1n (by decide) rfl ?_ | refine sm_get_p2n (by decide) (by decide) rfl ?_)) ?_
  refine Bod.ifF dc_126_159 rfl w8 ?_
  refine Bod.ildG dc_126_162 (by repeat (first | exact q0 | exact sm_get_p1 | exact sm_get_p2e | refine sm_get_p1m (by decide) (by decide) ?_ | refine sm_get_p1n (by decide) rfl ?_ | refine sm_get_p2n (by decide) (by decide) rfl ?_)) ?_
  refine Bod.ifT dc_126_164 rfl (k1_eq_T (k_eq a 0 rfl rfl (by omega))) ?_
  refine Bod.ic 0 (by decide) dc_126_171 ?_
  refine Bod.go dc_126_172 rfl ?_
  refine Bod.ist dc_126_180 (by rw [ml_126]; exact Nat.le_of_ble_eq_true rfl) ?_
  refine Bod.incN (tn + 1) (by rw [kc_1, nI_add]) dc_126_182 (by rw [ml_126]; exact Nat.le_of_ble_eq_true rfl) (by repeat (first | exact q5 | exact sm_get_p1 | exact sm_get_p2e | refine sm_get_p1m (by decide) (by decide) ?_ | refine sm_get_p1n (by decide) rfl ?_ | refine sm_get_p2n (by decide) (by decide) rfl ?_)) ?_
  refine Bod.go dc_126_185 rfl ?_
  exact hB _ (by repeat (first | exact q0 | exact sm_get_p1 | exact sm_get_p2e | refine sm_get_p1m (by decide) (by decide) ?_ | refine sm_get_p1n (by decide) rfl ?_ | refine sm_get_p2n (by decide) (by decide) rfl ?_)) (by repeat (first | exact q0 | exact sm_get_p1 | exact sm_get_p2e | refine sm_get_p1m (by decide) (by decide) ?_ | refine sm_get_p1n (by decide) rfl ?_ | refine sm_get_p2n (by decide) (by decide) rfl ?_)) (by repeat (first | exact q0 | exact sm_get_p1 | exact sm_get_p2e | refine sm_get_p1m (by decide) (by decide) ?_ | refine sm_get_p1n (by decide) rfl ?_ | refine sm_get_p2n (by decide) (by decide) rfl ?_)) (by repeat (first | exact q0 | exact sm_get_p1 | exact sm_get_p2e | refine sm_get_p1m (by decide) (by decide) ?_ | refine sm_get_p1n (by decide) rfl ?_ | refine sm_get_p2n (by decide) (by decide) rfl ?_))
theorem mPfL_21 {d : Nat} {S Sf : cS} {v : Option Value} {lv : sm_L} {ex : Int32} {tn : Nat} {S1 : cS} {a : Nat} {S2 : cS} {rb : Int32} (q0 : sm_get lv 0 = some (.ref 52)) (q3 : sm_get lv 3 = some (.int ex)) (q4 : sm_get lv 4 = some (.int (nI 1))) (q5 : sm_get lv 5 = some (.int (nI tn))) (mtn : tn < 1000000001) (b1 : tn < 1000000000) (ma : a < 2 ^ 20) (c1 : Ans (d + 8) 127 [.ref 52] S (some (.int (nI a))) S1) (b2 : 15 < a) (b3 : a ≤ 24) (c2 : Ans (d + 8) 161 [.ref 52, .int (nI a)] S1 (some (.int rb)) S2) (w8 : sm_c1 .ne rb true false = false) (b4 : a ≠ 0) (hB : ∀ lv1 : sm_L, sm_get lv1 0 = some (.ref 52) → sm_get lv1 3 = some (.int rb) → sm_get lv1 4 = some (.int (nI 1)) → sm_get lv1 5 = some (.int (nI (tn + 1))) → Bod (d + 8) 126 28 lv1 [] (S2) v Sf) : Bod (d + 8) 126 28 lv [] S v Sf := by
  refine Bod.ildG dc_126_28 (by repeat (first | exact q4 | exact sm_get_p1 | exact sm_get_p2e | refine sm_get_p1m (by decide) (by decide) ?_ | refine sm_get_p1n (by decide) rfl ?_ | refine sm_get_p2n (by decide) (by decide) rfl ?_)) ?_
  refine Bod.ifF dc_126_30 rfl (k1_eq_F (k_ne 1 0 rfl rfl (by omega) (by omega) (by omega))) ?_
  refine Bod.ildG dc_126_33 (by repeat (first | exact q5 | exact sm_get_p1 | exact sm_get_p2e | refine sm_get_p1m (by decide) (by decide) ?_ | refine sm_get_p1n (by decide) rfl ?_ | refine sm_get_p2n (by decide) (by decide) rfl ?_)) ?_
  refine Bod.ldcN 1000000000 (by decide) dc_126_35 ci_126_81 ?_
  refine Bod.icF dc_126_37 rfl (k2_ge_F tn 1000000000 rfl rfl (by omega) (by omega)) ?_
  refine Bod.aldnG dc_126_40 (by repeat (first | exact q0 | exact sm_get_p1 | exact sm_get_p2e | refine sm_get_p1m (by decide) (by decide) ?_ | refine sm_get_p1n (by decide) rfl ?_ | refine sm_get_p2n (by decide) (by decide) rfl ?_)) ?_
  refine Bod.virt (r := []) dc_126_41 kr_126_82 ⟨Or.inl rfl, ow_127, cl_4⟩ (by rw [np_127]; rfl) (by rw [np_127]; rfl) (ob_of (mk_52 _)) (Nat.le_of_ble_eq_true rfl) (c1  ) ?_
  show Bod _ _ _ _ [_] _ _ _
  refine Bod.ist dc_126_44 (by rw [ml_126]; exact Nat.le_of_ble_eq_true rfl) ?_
  refine Bod.ildG dc_126_46 (by repeat (first | exact q0 | exact sm_get_p1 | exact sm_get_p2e | refine sm_get_p1m (by decide) (by decide) ?_ | refine sm_get_p1n (by decide) rfl ?_ | refine sm_get_p2n (by decide) (by decide) rfl ?_)) ?_
  refine Bod.bip 15 (by decide) dc_126_48 ?_
  refine Bod.icT dc_126_50 rfl (k2_gt_T a 15 rfl rfl (by omega) (by omega)) ?_
  refine Bod.ildG dc_126_63 (by repeat (first | exact q0 | exact sm_get_p1 | exact sm_get_p2e | refine sm_get_p1m (by decide) (by decide) ?_ | refine sm_get_p1n (by decide) rfl ?_ | refine sm_get_p2n (by decide) (by decide) rfl ?_)) ?_
  refine Bod.bip 24 (by decide) dc_126_65 ?_
  refine Bod.icF dc_126_67 rfl (k2_gt_F a 24 rfl rfl (by omega) (by omega)) ?_
  refine Bod.aldnG dc_126_70 (by repeat (first | exact q0 | exact sm_get_p1 | exact sm_get_p2e | refine sm_get_p1m (by decide) (by decide) ?_ | refine sm_get_p1n (by decide) rfl ?_ | refine sm_get_p2n (by decide) (by decide) rfl ?_)) ?_
  refine Bod.ildG dc_126_71 (by repeat (first | exact q0 | exact sm_get_p1 | exact sm_get_p2e | refine sm_get_p1m (by decide) (by decide) ?_ | refine sm_get_p1n (by decide) rfl ?_ | refine sm_get_p2n (by decide) (by decide) rfl ?_)) ?_
  refine Bod.virt (r := []) dc_126_73 kr_126_92 ⟨Or.inl rfl, ow_161, cl_4⟩ (by rw [np_161]; rfl) (by rw [np_161]; rfl) (ob_of (mk_52 _)) (Nat.le_of_ble_eq_true rfl) (c2  ) ?_
  show Bod _ _ _ _ [_] _ _ _
  refine Bod.istn dc_126_76 (by rw [ml_126]; exact Nat.le_of_ble_eq_true rfl) ?_
  refine Bod.go dc_126_77 rfl ?_
  refine Bod.ildnG dc_126_158 (by repeat (first | exact q0 | exact sm_get_p1 | exact sm_get_p2e | refine sm_get_p1m (by decide) (by decide) ?_ | refine sm_get_p1n (by decide) rfl ?_ | refine sm_get_p2n (by decide) (by decide) rfl ?_)) ?_
  refine Bod.ifF dc_126_159 rfl w8 ?_
  refine Bod.ildG dc_126_162 (by repeat (first | exact q0 | exact sm_get_p1 | exact sm_get_p2e | refine sm_get_p1m (by decide) (by decide) ?_ | refine sm_get_p1n (by decide) rfl ?_ | refine sm_get_p2n (by decide) (by decide) rfl ?_)) ?_
  refine Bod.ifF dc_126_164 rfl (k1_eq_F (k_ne a 0 rfl rfl (by omega) (by omega) (by omega))) ?_
  refine Bod.ic 1 (by decide) dc_126_167 ?_
  refine Bod.go dc_126_168 rfl ?_
  refine Bod.ist dc_126_180 (by rw [ml_126]; exact Nat.le_of_ble_eq_true rfl) ?_
  refine Bod.incN (tn + 1) (by rw [kc_1, nI_add]) dc_126_182 (by rw [ml_126]; exact Nat.le_of_ble_eq_true rfl) (by repeat (first | exact q5 | exact sm_get_p1 | exact sm_get_p2e | refine sm_get_p1m (by decide) (by decide) ?_ | refine sm_get_p1n (by decide) rfl ?_ | refine sm_get_p2n (by decide) (by decide) rfl ?_)) ?_
  refine Bod.go dc_126_185 rfl ?_
  exact hB _ (by repeat (first | exact q0 | exact sm_get_p1 | exact sm_get_p2e | refine sm_get_p1m (by decide) (by decide) ?_ | refine sm_get_p1n (by decide) rfl ?_ | refine sm_get_p2n (by decide) (by decide) rfl ?_)) (by repeat (first | exact q0 | exact sm_get_p1 | exact sm_get_p2e | refine sm_get_p1m (by decide) (by decide) ?_ | refine sm_get_p1n (by decide) rfl ?_ | refine sm_get_p2n (by decide) (by decide) rfl ?_)) (by repeat (first | exact q0 | exact sm_get_p1 | exact sm_get_p2e | refine sm_get_p1m (by decide) (by decide) ?_ | refine sm_get_p1n (by decide) rfl ?_ | refine sm_get_p2n (by decide) (by decide) rfl ?_)) (by repeat (first | exact q0 | exact sm_get_p1 | exact sm_get_p2e | refine sm_get_p1m (by decide) (by decide) ?_ | refine sm_get_p1n (by decide) rfl ?_ | refine sm_get_p2n (by decide) (by decide) rfl ?_))
theorem mPfL_22 {d : Nat} {S Sf : cS} {v : Option Value} {lv : sm_L} {ex : Int32} {tn : Nat} {S1 : cS} {a : Nat} {S2 : cS} {rb : Int32} {S3 : cS} (q0 : sm_get lv 0 = some (.ref 52)) (q3 : sm_get lv 3 = some (.int ex)) (q4 : sm_get lv 4 = some (.int (nI 1))) (q5 : sm_get lv 5 = some (.int (nI tn))) (mtn : tn < 1000000001) (b1 : tn < 1000000000) (ma : a < 2 ^ 20) (c1 : Ans (d + 8) 127 [.ref 52] S (some (.int (nI a))) S1) (b2 : a ≤ 15) (c2 : Ans (d + 8) 128 [.ref 52, .int (nI a)] S1 (some (.int rb)) S2) (w7 : sm_c1 .ne rb true false = true) (c3 : Ans (d + 8) 266 [.ref 52, .int rb] S2 (some (.int (nI 1))) S3) (hB : ∀ lv1 : sm_L, sm_get lv1 0 = some (.ref 52) → sm_get lv1 3 = some (.int rb) → sm_get lv1 4 = some (.int (nI 1)) → sm_get lv1 5 = some (.int (nI (tn + 1))) → Bod (d + 8) 126 28 lv1 [] (S3) v Sf) : Bod (d + 8) 126 28 lv [] S v Sf := by
  refine Bod.ildG dc_126_28 (by repeat (first | exact q4 | exact sm_get_p1 | exact sm_get_p2e | refine sm_get_p1m (by decide) (by decide) ?_ | refine sm_get_p1n (by decide) rfl ?_ | refine sm_get_p2n (by decide) (by decide) rfl ?_)) ?_
  refine Bod.ifF dc_126_30 rfl (k1_eq_F (k_ne 1 0 rfl rfl (by omega) (by omega) (by omega))) ?_
  refine Bod.ildG dc_126_33 (by repeat (first | exact q5 | exact sm_get_p1 | exact sm_get_p2e | refine sm_get_p1m (by decide) (by decide) ?_ | refine sm_get_p1n (by decide) rfl ?_ | refine sm_get_p2n (by decide) (by decide) rfl ?_)) ?_
  refine Bod.ldcN 1000000000 (by decide) dc_126_35 ci_126_81 ?_
  refine Bod.icF dc_126_37 rfl (k2_ge_F tn 1000000000 rfl rfl (by omega) (by omega)) ?_
  refine Bod.aldnG dc_126_40 (by repeat (first | exact q0 | exact sm_get_p1 | exact sm_get_p2e | refine sm_get_p1m (by decide) (by decide) ?_ | refine sm_get_p1n (by decide) rfl ?_ | refine sm_get_p2n (by decide) (by decide) rfl ?_)) ?_
  refine Bod.virt (r := []) dc_126_41 kr_126_82 ⟨Or.inl rfl, ow_127, cl_4⟩ (by rw [np_127]; rfl) (by rw [np_127]; rfl) (ob_of (mk_52 _)) (Nat.le_of_ble_eq_true rfl) (c1  ) ?_
  show Bod _ _ _ _ [_] _ _ _
  refine Bod.ist dc_126_44 (by rw [ml_126]; exact Nat.le_of_ble_eq_true rfl) ?_
  refine Bod.ildG dc_126_46 (by repeat (first | exact q0 | exact sm_get_p1 | exact sm_get_p2e | refine sm_get_p1m (by decide) (by decide) ?_ | refine sm_get_p1n (by decide) rfl ?_ | refine sm_get_p2n (by decide) (by decide) rfl ?_)) ?_
  refine Bod.bip 15 (by decide) dc_126_48 ?_
  refine Bod.icF dc_126_50 rfl (k2_gt_F a 15 rfl rfl (by omega) (by omega)) ?_
  refine Bod.aldnG dc_126_53 (by repeat (first | exact q0 | exact sm_get_p1 | exact sm_get_p2e | refine sm_get_p1m (by decide) (by decide) ?_ | refine sm_get_p1n (by decide) rfl ?_ | refine sm_get_p2n (by decide) (by decide) rfl ?_)) ?_
  refine Bod.ildG dc_126_54 (by repeat (first | exact q0 | exact sm_get_p1 | exact sm_get_p2e | refine sm_get_p1m (by decide) (by decide) ?_ | refine sm_get_p1n (by decide) rfl ?_ | refine sm_get_p2n (by decide) (by decide) rfl ?_)) ?_
  refine Bod.virt (r := []) dc_126_56 kr_126_88 ⟨Or.inl rfl, ow_128, cl_4⟩ (by rw [np_128]; rfl) (by rw [np_128]; rfl) (ob_of (mk_52 _)) (Nat.le_of_ble_eq_true rfl) (c2  ) ?_
  show Bod _ _ _ _ [_] _ _ _
  refine Bod.istn dc_126_59 (by rw [ml_126]; exact Nat.le_of_ble_eq_true rfl) ?_
  refine Bod.go dc_126_60 rfl ?_
  refine Bod.ildnG dc_126_158 (by repeat (first | exact q0 | exact sm_get_p1 | exact sm_get_p2e | refine sm_get_p1m (by decide) (by decide) ?_ | refine sm_get_p1n (by decide) rfl ?_ | refine sm_get_p2n (by decide) (by decide) rfl ?_)) ?_
  refine Bod.ifT dc_126_159 rfl w7 ?_
  refine Bod.aldnG dc_126_175 (by repeat (first | exact q0 | exact sm_get_p1 | exact sm_get_p2e | refine sm_get_p1m (by decide) (by decide) ?_ | refine sm_get_p1n (by decide) rfl ?_ | refine sm_get_p2n (by decide) (by decide) rfl ?_)) ?_
  refine Bod.ildnG dc_126_176 (by repeat (first | exact q0 | exact sm_get_p1 | exact sm_get_p2e | refine sm_get_p1m (by decide) (by decide) ?_ | refine sm_get_p1n (by decide) rfl ?_ | refine sm_get_p2n (by decide) (by decide) rfl ?_)) ?_
  refine Bod.virt (r := []) dc_126_177 kr_126_114 ⟨Or.inl rfl, ow_266, cl_4⟩ (by rw [np_266]; rfl) (by rw [np_266]; rfl) (ob_of (mk_52 _)) (Nat.le_of_ble_eq_true rfl) (c3  ) ?_
  show Bod _ _ _ _ [_] _ _ _
  refine Bod.ist dc_126_180 (by rw [ml_126]; exact Nat.le_of_ble_eq_true rfl) ?_
  refine Bod.incN (tn + 1) (by rw [kc_1, nI_add]) dc_126_182 (by rw [ml_126]; exact Nat.le_of_ble_eq_true rfl) (by repeat (first | exact q5 | exact sm_get_p1 | exact sm_get_p2e | refine sm_get_p1m (by decide) (by decide) ?_ | refine sm_get_p1n (by decide) rfl ?_ | refine sm_get_p2n (by decide) (by decide) rfl ?_)) ?_
  refine Bod.go dc_126_185 rfl ?_
  exact hB _ (by repeat (first | exact q0 | exact sm_get_p1 | exact sm_get_p2e | refine sm_get_p1m (by decide) (by decide) ?_ | refine sm_get_p1n (by decide) rfl ?_ | refine sm_get_p2n (by decide) (by decide) rfl ?_)) (by repeat (first | exact q0 | exact sm_get_p1 | exact sm_get_p2e | refine sm_get_p1m (by decide) (by decide) ?_ | refine sm_get_p1n (by decide) rfl ?_ | refine sm_get_p2n (by decide) (by decide) rfl ?_)) (by repeat (first | exact q0 | exact sm_get_p1 | exact sm_get_p2e | refine sm_get_p1m (by decide) (by decide) ?_ | refine sm_get_p1n (by decide) rfl ?_ | refine sm_get_p2n (by decide) (by decide) rfl ?_)) (by repeat (first | exact q0 | exact sm_get_p1 | exact sm_get_p2e | refine sm_get_p1m (by decide) (by decide) ?_ | refine sm_get_p1n (by decide) rfl ?_ | refine sm_get_p2n (by decide) (by decide) rfl ?_))
theorem mPfL_23 {d : Nat} {S Sf : cS} {v : Option Value} {lv : sm_L} {ex : Int32} {tn : Nat} {S1 : cS} {a : Nat} {S2 : cS} {rb : Int32} {S3 : cS} (q0 : sm_get lv 0 = some (.ref 52)) (q3 : sm_get lv 3 = some (.int ex)) (q4 : sm_get lv 4 = some (.int (nI 1))) (q5 : sm_get lv 5 = some (.int (nI tn))) (mtn : tn < 1000000001) (b1 : tn < 1000000000) (ma : a < 2 ^ 20) (c1 : Ans (d + 8) 127 [.ref 52] S (some (.int (nI a))) S1) (b2 : a ≤ 15) (c2 : Ans (d + 8) 128 [.ref 52, .int (nI a)] S1 (some (.int rb)) S2) (w7 : sm_c1 .ne rb true false = true) (c3 : Ans (d + 8) 266 [.ref 52, .int rb] S2 (some (.int (nI 0))) S3) (hB : ∀ lv1 : sm_L, sm_get lv1 0 = some (.ref 52) → sm_get lv1 3 = some (.int rb) → sm_get lv1 4 = some (.int (nI 0)) → sm_get lv1 5 = some (.int (nI (tn + 1))) → Bod (d + 8) 126 28 lv1 [] (S3) v Sf) : Bod (d + 8) 126 28 lv [] S v Sf := by
  refine Bod.ildG dc_126_28 (by repeat (first | exact q4 | exact sm_get_p1 | exact sm_get_p2e | refine sm_get_p1m (by decide) (by decide) ?_ | refine sm_get_p1n (by decide) rfl ?_ | refine sm_get_p2n (by decide) (by decide) rfl ?_)) ?_
  refine Bod.ifF dc_126_30 rfl (k1_eq_F (k_ne 1 0 rfl rfl (by omega) (by omega) (by omega))) ?_
  refine Bod.ildG dc_126_33 (by repeat (first | exact q5 | exact sm_get_p1 | exact sm_get_p2e | refine sm_get_p1m (by decide) (by decide) ?_ | refine sm_get_p1n (by decide) rfl ?_ | refine sm_get_p2n (by decide) (by decide) rfl ?_)) ?_
  refine Bod.ldcN 1000000000 (by decide) dc_126_35 ci_126_81 ?_
  refine Bod.icF dc_126_37 rfl (k2_ge_F tn 1000000000 rfl rfl (by omega) (by omega)) ?_
  refine Bod.aldnG dc_126_40 (by repeat (first | exact q0 | exact sm_get_p1 | exact sm_get_p2e | refine sm_get_p1m (by decide) (by decide) ?_ | refine sm_get_p1n (by decide) rfl ?_ | refine sm_get_p2n (by decide) (by decide) rfl ?_)) ?_
  refine Bod.virt (r := []) dc_126_41 kr_126_82 ⟨Or.inl rfl, ow_127, cl_4⟩ (by rw [np_127]; rfl) (by rw [np_127]; rfl) (ob_of (mk_52 _)) (Nat.le_of_ble_eq_true rfl) (c1  ) ?_
  show Bod _ _ _ _ [_] _ _ _
  refine Bod.ist dc_126_44 (by rw [ml_126]; exact Nat.le_of_ble_eq_true rfl) ?_
  refine Bod.ildG dc_126_46 (by repeat (first | exact q0 | exact sm_get_p1 | exact sm_get_p2e | refine sm_get_p1m (by decide) (by decide) ?_ | refine sm_get_p1n (by decide) rfl ?_ | refine sm_get_p2n (by decide) (by decide) rfl ?_)) ?_
  refine Bod.bip 15 (by decide) dc_126_48 ?_
  refine Bod.icF dc_126_50 rfl (k2_gt_F a 15 rfl rfl (by omega) (by omega)) ?_
  refine Bod.aldnG dc_126_53 (by repeat (first | exact q0 | exact sm_get_p1 | exact sm_get_p2e | refine sm_get_p1m (by decide) (by decide) ?_ | refine sm_get_p1n (by decide) rfl ?_ | refine sm_get_p2n (by decide) (by decide) rfl ?_)) ?_
  refine Bod.ildG dc_126_54 (by repeat (first | exact q0 | exact sm_get_p1 | exact sm_get_p2e | refine sm_get_p1m (by decide) (by decide) ?_ | refine sm_get_p1n (by decide) rfl ?_ | refine sm_get_p2n (by decide) (by decide) rfl ?_)) ?_
  refine Bod.virt (r := []) dc_126_56 kr_126_88 ⟨Or.inl rfl, ow_128, cl_4⟩ (by rw [np_128]; rfl) (by rw [np_128]; rfl) (ob_of (mk_52 _)) (Nat.le_of_ble_eq_true rfl) (c2  ) ?_
  show Bod _ _ _ _ [_] _ _ _
  refine Bod.istn dc_126_59 (by rw [ml_126]; exact Nat.le_of_ble_eq_true rfl) ?_
  refine Bod.go dc_126_60 rfl ?_
  refine Bod.ildnG dc_126_158 (by repeat (first | exact q0 | exact sm_get_p1 | exact sm_get_p2e | refine sm_get_p1m (by decide) (by decide) ?_ | refine sm_get_p1n (by decide) rfl ?_ | refine sm_get_p2n (by decide) (by decide) rfl ?_)) ?_
  refine Bod.ifT dc_126_159 rfl w7 ?_
  refine Bod.aldnG dc_126_175 (by repeat (first | exact q0 | exact sm_get_p1 | exact sm_get_p2e | refine sm_get_p1m (by decide) (by decide) ?_ | refine sm_get_p1n (by decide) rfl ?_ | refine sm_get_p2n (by decide) (by decide) rfl ?_)) ?_
  refine Bod.ildnG dc_126_176 (by repeat (first | exact q0 | exact sm_get_p1 | exact sm_get_p2e | refine sm_get_p1m (by decide) (by decide) ?_ | refine sm_get_p1n (by decide) rfl ?_ | refine sm_get_p2n (by decide) (by decide) rfl ?_)) ?_
  refine Bod.virt (r := []) dc_126_177 kr_126_114 ⟨Or.inl rfl, ow_266, cl_4⟩ (by rw [np_266]; rfl) (by rw [np_266]; rfl) (ob_of (mk_52 _)) (Nat.le_of_ble_eq_true rfl) (c3  ) ?_
  show Bod _ _ _ _ [_] _ _ _
  refine Bod.ist dc_126_180 (by rw [ml_126]; exact Nat.le_of_ble_eq_true rfl) ?_
  refine Bod.incN (tn + 1) (by rw [kc_1, nI_add]) dc_126_182 (by rw [ml_126]; exact Nat.le_of_ble_eq_true rfl) (by repeat (first | exact q5 | exact sm_get_p1 | exact sm_get_p2e | refine sm_get_p1m (by decide) (by decide) ?_ | refine sm_get_p1n (by decide) rfl ?_ | refine sm_get_p2n (by decide) (by decide) rfl ?_)) ?_
  refine Bod.go dc_126_185 rfl ?_
  exact hB _ (by repeat (first | exact q0 | exact sm_get_p1 | exact sm_get_p2e | refine sm_get_p1m (by decide) (by decide) ?_ | refine sm_get_p1n (by decide) rfl ?_ | refine sm_get_p2n (by decide) (by decide) rfl ?_)) (by repeat (first | exact q0 | exact sm_get_p1 | exact sm_get_p2e | refine sm_get_p1m (by decide) (by decide) ?_ | refine sm_get_p1n (by decide) rfl ?_ | refine sm_get_p2n (by decide) (by decide) rfl ?_)) (by repeat (first | exact q0 | exact sm_get_p1 | exact sm_get_p2e | refine sm_get_p1m (by decide) (by decide) ?_ | refine sm_get_p1n (by decide) rfl ?_ | refine sm_get_p2n (by decide) (by decide) rfl ?_)) (by repeat (first | exact q0 | exact sm_get_p1 | exact sm_get_p2e | refine sm_get_p1m (by decide) (by decide) ?_ | refine sm_get_p1n (by decide) rfl ?_ | refine sm_get_p2n (by decide) (by decide) rfl ?_))
theorem mPfL_24 {d : Nat} {S Sf : cS} {v : Option Value} {lv : sm_L} {ex : Int32} {tn : Nat} {S1 : cS} {a : Nat} {S2 : cS} {rb : Int32} (q0 : sm_get lv 0 = some (.ref 52)) (q3 : sm_get lv 3 = some (.int ex)) (q4 : sm_get lv 4 = some (.int (nI 1))) (q5 : sm_get lv 5 = some (.int (nI tn))) (mtn : tn < 1000000001) (b1 : tn < 1000000000) (ma : a < 2 ^ 20) (c1 : Ans (d + 8) 127 [.ref 52] S (some (.int (nI a))) S1) (b2 : a ≤ 15) (c2 : Ans (d + 8) 128 [.ref 52, .int (nI a)] S1 (some (.int rb)) S2) (w7 : sm_c1 .ne rb true false = false) (b3 : a = 0) (hB : ∀ lv1 : sm_L, sm_get lv1 0 = some (.ref 52) → sm_get lv1 3 = some (.int rb) → sm_get lv1 4 = some (.int (nI 0)) → sm_get lv1 5 = some (.int (nI (tn + 1))) → Bod (d + 8) 126 28 lv1 [] (S2) v Sf) : Bod (d + 8) 126 28 lv [] S v Sf := by
  refine Bod.ildG dc_126_28 (by repeat (first | exact q4 | exact sm_get_p1 | exact sm_get_p2e | refine sm_get_p1m (by decide) (by decide) ?_ | refine sm_get_p1n (by decide) rfl ?_ | refine sm_get_p2n (by decide) (by decide) rfl ?_)) ?_
  refine Bod.ifF dc_126_30 rfl (k1_eq_F (k_ne 1 0 rfl rfl (by omega) (by omega) (by omega))) ?_
  refine Bod.ildG dc_126_33 (by repeat (first | exact q5 | exact sm_get_p1 | exact sm_get_p2e | refine sm_get_p1m (by decide) (by decide) ?_ | refine sm_get_p1n (by decide) rfl ?_ | refine sm_get_p2n (by decide) (by decide) rfl ?_)) ?_
  refine Bod.ldcN 1000000000 (by decide) dc_126_35 ci_126_81 ?_
  refine Bod.icF dc_126_37 rfl (k2_ge_F tn 1000000000 rfl rfl (by omega) (by omega)) ?_
  refine Bod.aldnG dc_126_40 (by repeat (first | exact q0 | exact sm_get_p1 | exact sm_get_p2e | refine sm_get_p1m (by decide) (by decide) ?_ | refine sm_get_p1n (by decide) rfl ?_ | refine sm_get_p2n (by decide) (by decide) rfl ?_)) ?_
  refine Bod.virt (r := []) dc_126_41 kr_126_82 ⟨Or.inl rfl, ow_127, cl_4⟩ (by rw [np_127]; rfl) (by rw [np_127]; rfl) (ob_of (mk_52 _)) (Nat.le_of_ble_eq_true rfl) (c1  ) ?_
  show Bod _ _ _ _ [_] _ _ _
  refine Bod.ist dc_126_44 (by rw [ml_126]; exact Nat.le_of_ble_eq_true rfl) ?_
  refine Bod.ildG dc_126_46 (by repeat (first | exact q0 | exact sm_get_p1 | exact sm_get_p2e | refine sm_get_p1m (by decide) (by decide) ?_ | refine sm_get_p1n (by decide) rfl ?_ | refine sm_get_p2n (by decide) (by decide) rfl ?_)) ?_
  refine Bod.bip 15 (by decide) dc_126_48 ?_
  refine Bod.icF dc_126_50 rfl (k2_gt_F a 15 rfl rfl (by omega) (by omega)) ?_
  refine Bod.aldnG dc_126_53 (by repeat (first | exact q0 | exact sm_get_p1 | exact sm_get_p2e | refine sm_get_p1m (by decide) (by decide) ?_ | refine sm_get_p1n (by decide) rfl ?_ | refine sm_get_p2n (by decide) (by decide) rfl ?_)) ?_
  refine Bod.ildG dc_126_54 (by repeat (first | exact q0 | exact sm_get_p1 | exact sm_get_p2e | refine sm_get_p1m (by decide) (by decide) ?_ | refine sm_get_p1n (by decide) rfl ?_ | refine sm_get_p2n (by decide) (by decide) rfl ?_)) ?_
  refine Bod.virt (r := []) dc_126_56 kr_126_88 ⟨Or.inl rfl, ow_128, cl_4⟩ (by rw [np_128]; rfl) (by rw [np_128]; rfl) (ob_of (mk_52 _)) (Nat.le_of_ble_eq_true rfl) (c2  ) ?_
  show Bod _ _ _ _ [_] _ _ _
  refine Bod.istn dc_126_59 (by rw [ml_126]; exact Nat.le_of_ble_eq_true rfl) ?_
  refine Bod.go dc_126_60 rfl ?_
  refine Bod.ildnG dc_126_158 (by repeat (first | exact q0 | exact sm_get_p1 | exact sm_get_p2e | refine sm_get_p1m (by decide) (by decide) ?_ | refine sm_get_p1n (by decide) rfl ?_ | refine sm_get_p2n (by decide) (by decide) rfl ?_)) ?_
  refine Bod.ifF dc_126_159 rfl w7 ?_
  refine Bod.ildG dc_126_162 (by repeat (first | exact q0 | exact sm_get_p1 | exact sm_get_p2e | refine sm_get_p1m (by decide) (by decide) ?_ | refine sm_get_p1n (by decide) rfl ?_ | refine sm_get_p2n (by decide) (by decide) rfl ?_)) ?_
  refine Bod.ifT dc_126_164 rfl (k1_eq_T (k_eq a 0 rfl rfl (by omega))) ?_
  refine Bod.ic 0 (by decide) dc_126_171 ?_
  refine Bod.go dc_126_172 rfl ?_
  refine Bod.ist dc_126_180 (by rw [ml_126]; exact Nat.le_of_ble_eq_true rfl) ?_
  refine Bod.incN (tn + 1) (by rw [kc_1, nI_add]) dc_126_182 (by rw [ml_126]; exact Nat.le_of_ble_eq_true rfl) (by repeat (first | exact q5 | exact sm_get_p1 | exact sm_get_p2e | refine sm_get_p1m (by decide) (by decide) ?_ | refine sm_get_p1n (by decide) rfl ?_ | refine sm_get_p2n (by decide) (by decide) rfl ?_)) ?_
  refine Bod.go dc_126_185 rfl ?_
  exact hB _ (by repeat (first | exact q0 | exact sm_get_p1 | exact sm_get_p2e | refine sm_get_p1m (by decide) (by decide) ?_ | refine sm_get_p1n (by decide) rfl ?_ | refine sm_get_p2n (by decide) (by decide) rfl ?_)) (by repeat (first | exact q0 | exact sm_get_p1 | exact sm_get_p2e | refine sm_get_p1m (by decide) (by decide) ?_ | refine sm_get_p1n (by decide) rfl ?_ | refine sm_get_p2n (by decide) (by decide) rfl ?_)) (by repeat (first | exact q0 | exact sm_get_p1 | exact sm_get_p2e | refine sm_get_p1m (by decide) (by decide) ?_ | refine sm_get_p1n (by decide) rfl ?_ | refine sm_get_p2n (by decide) (by decide) rfl ?_)) (by repeat (first | exact q0 | exact sm_get_p1 | exact sm_get_p2e | refine sm_get_p1m (by decide) (by decide) ?_ | refine sm_get_p1n (by decide) rfl ?_ | refine sm_get_p2n (by decide) (by decide) rfl ?_))
theorem mPfL_25 {d : Nat} {S Sf : cS} {v : Option Value} {lv : sm_L} {ex : Int32} {tn : Nat} {S1 : cS} {a : Nat} {S2 : cS} {rb : Int32} (q0 : sm_get lv 0 = some (.ref 52)) (q3 : sm_get lv 3 = some (.int ex)) (q4 : sm_get lv 4 = some (.int (nI 1))) (q5 : sm_get lv 5 = some (.int (nI tn))) (mtn : tn < 1000000001) (b1 : tn < 1000000000) (ma : a < 2 ^ 20) (c1 : Ans (d + 8) 127 [.ref 52] S (some (.int (nI a))) S1) (b2 : a ≤ 15) (c2 : Ans (d + 8) 128 [.ref 52, .int (nI a)] S1 (some (.int rb)) S2) (w7 : sm_c1 .ne rb true false = false) (b3 : a ≠ 0) (hB : ∀ lv1 : sm_L, sm_get lv1 0 = some (.ref 52) → sm_get lv1 3 = some (.int rb) → sm_get lv1 4 = some (.int (nI 1)) → sm_get lv1 5 = some (.int (nI (tn + 1))) → Bod (d + 8) 126 28 lv1 [] (S2) v Sf) : Bod (d + 8) 126 28 lv [] S v Sf := by
  refine Bod.ildG dc_126_28 (by repeat (first | exact q4 | exact sm_get_p1 | exact sm_get_p2e | refine sm_get_p1m (by decide) (by decide) ?_ | refine sm_get_p1n (by decide) rfl ?_ | refine sm_get_p2n (by decide) (by decide) rfl ?_)) ?_
  refine Bod.ifF dc_126_30 rfl (k1_eq_F (k_ne 1 0 rfl rfl (by omega) (by omega) (by omega))) ?_
  refine Bod.ildG dc_126_33 (by repeat (first | exact q5 | exact sm_get_p1 | exact sm_get_p2e | refine sm_get_p1m (by decide) (by decide) ?_ | refine sm_get_p1n (by decide) rfl ?_ | refine sm_get_p2n (by decide) (by decide) rfl ?_)) ?_
  refine Bod.ldcN 1000000000 (by decide) dc_126_35 ci_126_81 ?_
  refine Bod.icF dc_126_37 rfl (k2_ge_F tn 1000000000 rfl rfl (by omega) (by omega)) ?_
  refine Bod.aldnG dc_126_40 (by repeat (first | exact q0 | exact sm_get_p1 | exact sm_get_p2e | refine sm_get_p1m (by decide) (by decide) ?_ | refine sm_get_p1n (by decide) rfl ?_ | refine sm_get_p2n (by decide) (by decide) rfl ?_)) ?_
  refine Bod.virt (r := []) dc_126_41 kr_126_82 ⟨Or.inl rfl, ow_127, cl_4⟩ (by rw [np_127]; rfl) (by rw [np_127]; rfl) (ob_of (mk_52 _)) (Nat.le_of_ble_eq_true rfl) (c1  ) ?_
  show Bod _ _ _ _ [_] _ _ _
  refine Bod.ist dc_126_44 (by rw [ml_126]; exact Nat.le_of_ble_eq_true rfl) ?_
  refine Bod.ildG dc_126_46 (by repeat (first | exact q0 | exact sm_get_p1 | exact sm_get_p2e | refine sm_get_p1m (by decide) (by decide) ?_ | refine sm_get_p1n (by decide) rfl ?_ | refine sm_get_p2n (by decide) (by decide) rfl ?_)) ?_
  refine Bod.bip 15 (by decide) dc_126_48 ?_
  refine Bod.icF dc_126_50 rfl (k2_gt_F a 15 rfl rfl (by omega) (by omega)) ?_
  refine Bod.aldnG dc_126_53 (by repeat (first | exact q0 | exact sm_get_p1 | exact sm_get_p2e | refine sm_get_p1m (by decide) (by decide) ?_ | refine sm_get_p1n (by decide) rfl ?_ | refine sm_get_p2n (by decide) (by decide) rfl ?_)) ?_
  refine Bod.ildG dc_126_54 (by repeat (first | exact q0 | exact sm_get_p1 | exact sm_get_p2e | refine sm_get_p1m (by decide) (by decide) ?_ | refine sm_get_p1n (by decide) rfl ?_ | refine sm_get_p2n (by decide) (by decide) rfl ?_)) ?_
  refine Bod.virt (r := []) dc_126_56 kr_126_88 ⟨Or.inl rfl, ow_128, cl_4⟩ (by rw [np_128]; rfl) (by rw [np_128]; rfl) (ob_of (mk_52 _)) (Nat.le_of_ble_eq_true rfl) (c2  ) ?_
  show Bod _ _ _ _ [_] _ _ _
  refine Bod.istn dc_126_59 (by rw [ml_126]; exact Nat.le_of_ble_eq_true rfl) ?_
  refine Bod.go dc_126_60 rfl ?_
  refine Bod.ildnG dc_126_158 (by repeat (first | exact q0 | exact sm_get_p1 | exact sm_get_p2e | refine sm_get_p1m (by decide) (by decide) ?_ | refine sm_get_p1n (by decide) rfl ?_ | refine sm_get_p2n (by decide) (by decide) rfl ?_)) ?_
  refine Bod.ifF dc_126_159 rfl w7 ?_
  refine Bod.ildG dc_126_162 (by repeat (first | exact q0 | exact sm_get_p1 | exact sm_get_p2e | refine sm_get_p1m (by decide) (by decide) ?_ | refine sm_get_p1n (by decide) rfl ?_ | refine sm_get_p2n (by decide) (by decide) rfl ?_)) ?_
  refine Bod.ifF dc_126_164 rfl (k1_eq_F (k_ne a 0 rfl rfl (by omega) (by omega) (by omega))) ?_
  refine Bod.ic 1 (by decide) dc_126_167 ?_
  refine Bod.go dc_126_168 rfl ?_
  refine Bod.ist dc_126_180 (by rw [ml_126]; exact Nat.le_of_ble_eq_true rfl) ?_
  refine Bod.incN (tn + 1) (by rw [kc_1, nI_add]) dc_126_182 (by rw [ml_126]; exact Nat.le_of_ble_eq_true rfl) (by repeat (first | exact q5 | exact sm_get_p1 | exact sm_get_p2e | refine sm_get_p1m (by decide) (by decide) ?_ | refine sm_get_p1n (by decide) rfl ?_ | refine sm_get_p2n (by decide) (by decide) rfl ?_)) ?_
  refine Bod.go dc_126_185 rfl ?_
  exact hB _ (by repeat (first | exact q0 | exact sm_get_p1 | exact sm_get_p2e | refine sm_get_p1m (by decide) (by decide) ?_ | refine sm_get_p1n (by decide) rfl ?_ | refine sm_get_p2n (by decide) (by decide) rfl ?_)) (by repeat (first | exact q0 | exact sm_get_p1 | exact sm_get_p2e | refine sm_get_p1m (by decide) (by decide) ?_ | refine sm_get_p1n (by decide) rfl ?_ | refine sm_get_p2n (by decide) (by decide) rfl ?_)) (by repeat (first | exact q0 | exact sm_get_p1 | exact sm_get_p2e | refine sm_get_p1m (by decide) (by decide) ?_ | refine sm_get_p1n (by decide) rfl ?_ | refine sm_get_p2n (by decide) (by decide) rfl ?_)) (by repeat (first | exact q0 | exact sm_get_p1 | exact sm_get_p2e | refine sm_get_p1m (by decide) (by decide) ?_ | refine sm_get_p1n (by decide) rfl ?_ | refine sm_get_p2n (by decide) (by decide) rfl ?_))
theorem mPfN_1 {d : Nat} {S Sf : cS} {v : Option Value} {lv : sm_L} {ex : Int32} {tn : Nat} (q0 : sm_get lv 0 = some (.ref 52)) (q3 : sm_get lv 3 = some (.int ex)) (q4 : sm_get lv 4 = some (.int (nI 0))) (q5 : sm_get lv 5 = some (.int (nI tn))) (mtn : tn < 1000000001) (hB : ∀ lv1 : sm_L, sm_get lv1 0 = some (.ref 52) → sm_get lv1 3 = some (.int ex) → sm_get lv1 4 = some (.int (nI 0)) → Bod (d + 8) 126 188 lv1 [] (S) v Sf) : Bod (d + 8) 126 28 lv [] S v Sf := by
  refine Bod.ildG dc_126_28 (by repeat (first | exact q4 | exact sm_get_p1 | exact sm_get_p2e | refine sm_get_p1m (by decide) (by decide) ?_ | refine sm_get_p1n (by decide) rfl ?_ | refine sm_get_p2n (by decide) (by decide) rfl ?_)) ?_
  refine Bod.ifT dc_126_30 rfl (k1_eq_T (k_eq 0 0 rfl rfl (by omega))) ?_
  exact hB _ (by repeat (first | exact q0 | exact sm_get_p1 | exact sm_get_p2e | refine sm_get_p1m (by decide) (by decide) ?_ | refine sm_get_p1n (by decide) rfl ?_ | refine sm_get_p2n (by decide) (by decide) rfl ?_)) (by repeat (first | exact q3 | exact sm_get_p1 | exact sm_get_p2e | refine sm_get_p1m (by decide) (by decide) ?_ | refine sm_get_p1n (by decide) rfl ?_ | refine sm_get_p2n (by decide) (by decide) rfl ?_)) (by repeat (first | exact q4 | exact sm_get_p1 | exact sm_get_p2e | refine sm_get_p1m (by decide) (by decide) ?_ | refine sm_get_p1n (by decide) rfl ?_ | refine sm_get_p2n (by decide) (by decide) rfl ?_))
theorem mPfE_1 {d : Nat} {S : cS} {lv : sm_L} {ex : Int32} {S1 : cS} {t : Nat} {S2 : cS} (q0 : sm_get lv 0 = some (.ref 52)) (q3 : sm_get lv 3 = some (.int ex)) (q4 : sm_get lv 4 = some (.int (nI 0))) (c1 : Ans (d + 8) 267 [.ref 52, .int (nI 0)] S none S1) (ht : sI S1 4603 = nI t) (mt : t < 20481) (c2 : Ans (d + 8) 141 [.ref 46, .int (nI t)] S1 none S2) : Bod (d + 8) 126 188 lv [] S (some (.int ex)) (wI 5217 (sI S 5217) S2) := by
  refine Bod.aldnG dc_126_188 (by repeat (first | exact q0 | exact sm_get_p1 | exact sm_get_p2e | refine sm_get_p1m (by decide) (by decide) ?_ | refine sm_get_p1n (by decide) rfl ?_ | refine sm_get_p2n (by decide) (by decide) rfl ?_)) ?_
  refine Bod.get dc_126_189 fr_126_66 (mk_52 _) rfl ?_
  refine Bod.ist dc_126_192 (by rw [ml_126]; exact Nat.le_of_ble_eq_true rfl) ?_
  refine Bod.aldnG dc_126_194 (by repeat (first | exact q0 | exact sm_get_p1 | exact sm_get_p2e | refine sm_get_p1m (by decide) (by decide) ?_ | refine sm_get_p1n (by decide) rfl ?_ | refine sm_get_p2n (by decide) (by decide) rfl ?_)) ?_
  refine Bod.ic 0 (by decide) dc_126_195 ?_
  refine Bod.virt (r := []) dc_126_196 kr_126_118 ⟨Or.inl rfl, ow_267, cl_4⟩ (by rw [np_267]; rfl) (by rw [np_267]; rfl) (ob_of (mk_52 _)) (Nat.le_of_ble_eq_true rfl) (c1  ) ?_
  show Bod _ _ _ _ [] _ _ _
  refine Bod.aldnG dc_126_199 (by repeat (first | exact q0 | exact sm_get_p1 | exact sm_get_p2e | refine sm_get_p1m (by decide) (by decide) ?_ | refine sm_get_p1n (by decide) rfl ?_ | refine sm_get_p2n (by decide) (by decide) rfl ?_)) ?_
  refine Bod.get dc_126_200 fr_126_23 (mk_52 _) rfl ?_
  refine Bod.aldnG dc_126_203 (by repeat (first | exact q0 | exact sm_get_p1 | exact sm_get_p2e | refine sm_get_p1m (by decide) (by decide) ?_ | refine sm_get_p1n (by decide) rfl ?_ | refine sm_get_p2n (by decide) (by decide) rfl ?_)) ?_
  refine Bod.get dc_126_204 fr_126_23 (mk_52 _) rfl ?_
  refine Bod.get dc_126_207 fr_126_122 (mk_46 _) rfl ?_
  refine Bod.eqI (nI t) (by first | assumption | (simp (disch := omega) only [rI, rIe, rA, rIA, rLA, rJA, rVI, rQI, rVA, rQA, upd_at,  rAI, rLI, rJI, nI_add, pk_sub, kc_0, kc_1, kc_2, kc_3, kc_4, kc_5, reduceIte, Nat.reduceEqDiff, Nat.add_zero, rI_hold, rI_hold, rL_hold, ht]; done) | (simp (disch := omega) only [rI, rIe, rA, rIA, rLA, rJA, rVI, rQI, rVA, rQA, upd_at,  rAI, rLI, rJI, nI_add, pk_sub, kc_0, kc_1, kc_2, kc_3, kc_4, kc_5, reduceIte, Nat.reduceEqDiff, Nat.add_zero, rI_hold, rI_hold, rL_hold, ht]; exact congrArg nI (by omega))) ?_
  refine Bod.virt (r := []) dc_126_210 kr_126_127 ⟨Or.inr rfl, ow_141, cl_9⟩ (by rw [np_141]; rfl) (by rw [np_141]; rfl) (ob_of (mk_46 _)) (Nat.le_of_ble_eq_true rfl) (c2  ) ?_
  show Bod _ _ _ _ [] _ _ _
  refine Bod.aldnG dc_126_213 (by repeat (first | exact q0 | exact sm_get_p1 | exact sm_get_p2e | refine sm_get_p1m (by decide) (by decide) ?_ | refine sm_get_p1n (by decide) rfl ?_ | refine sm_get_p2n (by decide) (by decide) rfl ?_)) ?_
  refine Bod.ildG dc_126_214 (by repeat (first | exact q0 | exact sm_get_p1 | exact sm_get_p2e | refine sm_get_p1m (by decide) (by decide) ?_ | refine sm_get_p1n (by decide) rfl ?_ | refine sm_get_p2n (by decide) (by decide) rfl ?_)) ?_
  refine Bod.put dc_126_216 fr_126_66 (mk_52 _) (Nat.le_of_ble_eq_true rfl) pf_4_17 (st_5217 _ _) (mu_I _ _ _) ?_
  refine Bod.ildG dc_126_219 (by repeat (first | exact q4 | exact sm_get_p1 | exact sm_get_p2e | refine sm_get_p1m (by decide) (by decide) ?_ | refine sm_get_p1n (by decide) rfl ?_ | refine sm_get_p2n (by decide) (by decide) rfl ?_)) ?_
  refine Bod.ifT dc_126_221 rfl (k1_eq_T (k_eq 0 0 rfl rfl (by omega))) ?_
  refine Bod.ildnG dc_126_229 (by repeat (first | exact q3 | exact sm_get_p1 | exact sm_get_p2e | refine sm_get_p1m (by decide) (by decide) ?_ | refine sm_get_p1n (by decide) rfl ?_ | refine sm_get_p2n (by decide) (by decide) rfl ?_)) ?_
  exact Bod.retI dc_126_230 rt_126
theorem mPfF_1 {d : Nat} {S : cS} {lv : sm_L} {ex : Int32} {S1 : cS} {t : Nat} {S2 : cS} (q0 : sm_get lv 0 = some (.ref 52)) (q3 : sm_get lv 3 = some (.int ex)) (q4 : sm_get lv 4 = some (.int (nI 1))) (c1 : Ans (d + 8) 267 [.ref 52, .int (nI 0)] S none S1) (ht : sI S1 4603 = nI t) (mt : t < 20481) (c2 : Ans (d + 8) 141 [.ref 46, .int (nI t)] S1 none S2) : Bod (d + 8) 126 188 lv [] S (some (.int (nI 100))) (wI 5217 (sI S 5217) S2) := by
  refine Bod.aldnG dc_126_188 (by repeat (first | exact q0 | exact sm_get_p1 | exact sm_get_p2e | refine sm_get_p1m (by decide) (by decide) ?_ | refine sm_get_p1n (by decide) rfl ?_ | refine sm_get_p2n (by decide) (by decide) rfl ?_)) ?_
  refine Bod.get dc_126_189 fr_126_66 (mk_52 _) rfl ?_
  refine Bod.ist dc_126_192 (by rw [ml_126]; exact Nat.le_of_ble_eq_true rfl) ?_
  refine Bod.aldnG dc_126_194 (by repeat (first | exact q0 | exact sm_get_p1 | exact sm_get_p2e | refine sm_get_p1m (by decide) (by decide) ?_ | refine sm_get_p1n (by decide) rfl ?_ | refine sm_get_p2n (by decide) (by decide) rfl ?_)) ?_
  refine Bod.ic 0 (by decide) dc_126_195 ?_
  refine Bod.virt (r := []) dc_126_196 kr_126_118 ⟨Or.inl rfl, ow_267, cl_4⟩ (by rw [np_267]; rfl) (by rw [np_267]; rfl) (ob_of (mk_52 _)) (Nat.le_of_ble_eq_true rfl) (c1  ) ?_
  show Bod _ _ _ _ [] _ _ _
  refine Bod.aldnG dc_126_199 (by repeat (first | exact q0 | exact sm_get_p1 | exact sm_get_p2e | refine sm_get_p1m (by decide) (by decide) ?_ | refine sm_get_p1n (by decide) rfl ?_ | refine sm_get_p2n (by decide) (by decide) rfl ?_)) ?_
  refine Bod.get dc_126_200 fr_126_23 (mk_52 _) rfl ?_
  refine Bod.aldnG dc_126_203 (by repeat (first | exact q0 | exact sm_get_p1 | exact sm_get_p2e | refine sm_get_p1m (by decide) (by decide) ?_ | refine sm_get_p1n (by decide) rfl ?_ | refine sm_get_p2n (by decide) (by decide) rfl ?_)) ?_
  refine Bod.get dc_126_204 fr_126_23 (mk_52 _) rfl ?_
  refine Bod.get dc_126_207 fr_126_122 (mk_46 _) rfl ?_
  refine Bod.eqI (nI t) (by first | assumption | (simp (disch := omega) only [rI, rIe, rA, rIA, rLA, rJA, rVI, rQI, rVA, rQA, upd_at,  rAI, rLI, rJI, nI_add, pk_sub, kc_0, kc_1, kc_2, kc_3, kc_4, kc_5, reduceIte, Nat.reduceEqDiff, Nat.add_zero, rI_hold, rI_hold, rL_hold, ht]; done) | (simp (disch := omega) only [rI, rIe, rA, rIA, rLA, rJA, rVI, rQI, rVA, rQA, upd_at,  rAI, rLI, rJI, nI_add, pk_sub, kc_0, kc_1, kc_2, kc_3, kc_4, kc_5, reduceIte, Nat.reduceEqDiff, Nat.add_zero, rI_hold, rI_hold, rL_hold, ht]; exact congrArg nI (by omega))) ?_
  refine Bod.virt (r := []) dc_126_210 kr_126_127 ⟨Or.inr rfl, ow_141, cl_9⟩ (by rw [np_141]; rfl) (by rw [np_141]; rfl) (ob_of (mk_46 _)) (Nat.le_of_ble_eq_true rfl) (c2  ) ?_
  show Bod _ _ _ _ [] _ _ _
  refine Bod.aldnG dc_126_213 (by repeat (first | exact q0 | exact sm_get_p1 | exact sm_get_p2e | refine sm_get_p1m (by decide) (by decide) ?_ | refine sm_get_p1n (by decide) rfl ?_ | refine sm_get_p2n (by decide) (by decide) rfl ?_)) ?_
  refine Bod.ildG dc_126_214 (by repeat (first | exact q0 | exact sm_get_p1 | exact sm_get_p2e | refine sm_get_p1m (by decide) (by decide) ?_ | refine sm_get_p1n (by decide) rfl ?_ | refine sm_get_p2n (by decide) (by decide) rfl ?_)) ?_
  refine Bod.put dc_126_216 fr_126_66 (mk_52 _) (Nat.le_of_ble_eq_true rfl) pf_4_17 (st_5217 _ _) (mu_I _ _ _) ?_
  refine Bod.ildG dc_126_219 (by repeat (first | exact q4 | exact sm_get_p1 | exact sm_get_p2e | refine sm_get_p1m (by decide) (by decide) ?_ | refine sm_get_p1n (by decide) rfl ?_ | refine sm_get_p2n (by decide) (by decide) rfl ?_)) ?_
  refine Bod.ifF dc_126_221 rfl (k1_eq_F (k_ne 1 0 rfl rfl (by omega) (by omega) (by omega))) ?_
  refine Bod.bip 100 (by decide) dc_126_224 ?_
  refine Bod.go dc_126_226 rfl ?_
  exact Bod.retI dc_126_230 rt_126
