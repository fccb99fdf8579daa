/-! WAYS of the class's machine: every call is a hypothesis -/
theorem ml_252 : sm_ml 252 = 3 := by decide +kernel
theorem dc_252_0 : decode (sm_cc 252) 0 = .ok (.aload_n 0, 1) := by decide +kernel
theorem dc_252_1 : decode (sm_cc 252) 1 = .ok (.iconst 0, 1) := by decide +kernel
theorem dc_252_2 : decode (sm_cc 252) 2 = .ok (.putfield 73, 3) := by decide +kernel
theorem fr_252_73 : sm_at mt_f (sm_ow 252) 73 = some (73, 2, 16, 0, 392) := by decide +kernel
theorem dc_252_5 : decode (sm_cc 252) 5 = .ok (.iconst 1, 1) := by decide +kernel
theorem dc_252_6 : decode (sm_cc 252) 6 = .ok (.istore_n 1, 1) := by decide +kernel
theorem dc_252_7 : decode (sm_cc 252) 7 = .ok (.iload_n 1, 1) := by decide +kernel
theorem dc_252_8 : decode (sm_cc 252) 8 = .ok (.aload_n 0, 1) := by decide +kernel
theorem dc_252_9 : decode (sm_cc 252) 9 = .ok (.getfield 59, 3) := by decide +kernel
theorem fr_252_59 : sm_at mt_f (sm_ow 252) 59 = some (59, 2, 15, 0, 391) := by decide +kernel
theorem dc_252_12 : decode (sm_cc 252) 12 = .ok (.if_icmp .gt (54), 3) := by decide +kernel
theorem dc_252_15 : decode (sm_cc 252) 15 = .ok (.iload_n 1, 1) := by decide +kernel
theorem dc_252_16 : decode (sm_cc 252) 16 = .ok (.sipush (1500), 3) := by decide +kernel
theorem dc_252_19 : decode (sm_cc 252) 19 = .ok (.if_icmp .gt (47), 3) := by decide +kernel
theorem dc_252_22 : decode (sm_cc 252) 22 = .ok (.aload_n 0, 1) := by decide +kernel
theorem dc_252_23 : decode (sm_cc 252) 23 = .ok (.getfield 51, 3) := by decide +kernel
theorem fr_252_51 : sm_at mt_f (sm_ow 252) 51 = some (51, 2, 12, 0, 388) := by decide +kernel
theorem dc_252_26 : decode (sm_cc 252) 26 = .ok (.iload_n 1, 1) := by decide +kernel
theorem dc_252_27 : decode (sm_cc 252) 27 = .ok (.iconst 0, 1) := by decide +kernel
theorem dc_252_28 : decode (sm_cc 252) 28 = .ok (.bastore, 1) := by decide +kernel
theorem dc_252_29 : decode (sm_cc 252) 29 = .ok (.aload_n 0, 1) := by decide +kernel
theorem dc_252_30 : decode (sm_cc 252) 30 = .ok (.getfield 11, 3) := by decide +kernel
theorem fr_252_11 : sm_at mt_f (sm_ow 252) 11 = some (11, 2, 0, 0, 373) := by decide +kernel
theorem dc_252_33 : decode (sm_cc 252) 33 = .ok (.iload_n 1, 1) := by decide +kernel
theorem dc_252_34 : decode (sm_cc 252) 34 = .ok (.iaload, 1) := by decide +kernel
theorem dc_252_35 : decode (sm_cc 252) 35 = .ok (.ifCond .eq (25), 3) := by decide +kernel
theorem dc_252_60 : decode (sm_cc 252) 60 = .ok (.iinc 1 (1), 3) := by decide +kernel
theorem dc_252_63 : decode (sm_cc 252) 63 = .ok (.goto (-56), 3) := by decide +kernel
theorem dc_252_38 : decode (sm_cc 252) 38 = .ok (.aload_n 0, 1) := by decide +kernel
theorem dc_252_39 : decode (sm_cc 252) 39 = .ok (.getfield 18, 3) := by decide +kernel
theorem fr_252_18 : sm_at mt_f (sm_ow 252) 18 = some (18, 2, 2, 0, 375) := by decide +kernel
theorem dc_252_42 : decode (sm_cc 252) 42 = .ok (.iload_n 1, 1) := by decide +kernel
theorem dc_252_43 : decode (sm_cc 252) 43 = .ok (.iaload, 1) := by decide +kernel
theorem dc_252_44 : decode (sm_cc 252) 44 = .ok (.aload_n 0, 1) := by decide +kernel
theorem dc_252_45 : decode (sm_cc 252) 45 = .ok (.getfield 21, 3) := by decide +kernel
theorem fr_252_21 : sm_at mt_f (sm_ow 252) 21 = some (21, 2, 3, 0, 377) := by decide +kernel
theorem dc_252_48 : decode (sm_cc 252) 48 = .ok (.iload_n 1, 1) := by decide +kernel
theorem dc_252_49 : decode (sm_cc 252) 49 = .ok (.iaload, 1) := by decide +kernel
theorem dc_252_50 : decode (sm_cc 252) 50 = .ok (.iadd, 1) := by decide +kernel
theorem dc_252_51 : decode (sm_cc 252) 51 = .ok (.ifCond .le (9), 3) := by decide +kernel
theorem dc_252_54 : decode (sm_cc 252) 54 = .ok (.aload_n 0, 1) := by decide +kernel
theorem dc_252_55 : decode (sm_cc 252) 55 = .ok (.iload_n 1, 1) := by decide +kernel
theorem dc_252_56 : decode (sm_cc 252) 56 = .ok (.iconst 1, 1) := by decide +kernel
theorem dc_252_57 : decode (sm_cc 252) 57 = .ok (.invokevirtual 84, 3) := by decide +kernel
theorem kr_252_84 : sm_at mt_k (sm_ow 252) 84 = some (84, 0, 144, 0, 1411) := by decide +kernel
theorem dc_252_66 : decode (sm_cc 252) 66 = .ok (.iconst 0, 1) := by decide +kernel
theorem dc_252_67 : decode (sm_cc 252) 67 = .ok (.istore_n 1, 1) := by decide +kernel
theorem dc_252_68 : decode (sm_cc 252) 68 = .ok (.iload_n 1, 1) := by decide +kernel
theorem dc_252_69 : decode (sm_cc 252) 69 = .ok (.sipush (1500), 3) := by decide +kernel
theorem dc_252_72 : decode (sm_cc 252) 72 = .ok (.if_icmp .gt (50), 3) := by decide +kernel
theorem dc_252_75 : decode (sm_cc 252) 75 = .ok (.aload_n 0, 1) := by decide +kernel
theorem dc_252_76 : decode (sm_cc 252) 76 = .ok (.getfield 73, 3) := by decide +kernel
theorem dc_252_79 : decode (sm_cc 252) 79 = .ok (.ifCond .le (43), 3) := by decide +kernel
theorem dc_252_82 : decode (sm_cc 252) 82 = .ok (.aload_n 0, 1) := by decide +kernel
theorem dc_252_83 : decode (sm_cc 252) 83 = .ok (.getfield 73, 3) := by decide +kernel
theorem dc_252_86 : decode (sm_cc 252) 86 = .ok (.sipush (1500), 3) := by decide +kernel
theorem dc_252_89 : decode (sm_cc 252) 89 = .ok (.if_icmp .gt (33), 3) := by decide +kernel
theorem dc_252_92 : decode (sm_cc 252) 92 = .ok (.aload_n 0, 1) := by decide +kernel
theorem dc_252_93 : decode (sm_cc 252) 93 = .ok (.dup, 1) := by decide +kernel
theorem dc_252_94 : decode (sm_cc 252) 94 = .ok (.getfield 73, 3) := by decide +kernel
theorem dc_252_97 : decode (sm_cc 252) 97 = .ok (.iconst 1, 1) := by decide +kernel
theorem dc_252_98 : decode (sm_cc 252) 98 = .ok (.isub, 1) := by decide +kernel
theorem dc_252_99 : decode (sm_cc 252) 99 = .ok (.putfield 73, 3) := by decide +kernel
theorem dc_252_102 : decode (sm_cc 252) 102 = .ok (.aload_n 0, 1) := by decide +kernel
theorem dc_252_103 : decode (sm_cc 252) 103 = .ok (.aload_n 0, 1) := by decide +kernel
theorem dc_252_104 : decode (sm_cc 252) 104 = .ok (.getfield 48, 3) := by decide +kernel
theorem fr_252_48 : sm_at mt_f (sm_ow 252) 48 = some (48, 2, 11, 0, 387) := by decide +kernel
theorem dc_252_107 : decode (sm_cc 252) 107 = .ok (.aload_n 0, 1) := by decide +kernel
theorem dc_252_108 : decode (sm_cc 252) 108 = .ok (.getfield 73, 3) := by decide +kernel
theorem dc_252_111 : decode (sm_cc 252) 111 = .ok (.iaload, 1) := by decide +kernel
theorem dc_252_112 : decode (sm_cc 252) 112 = .ok (.iconst 1, 1) := by decide +kernel
theorem dc_252_113 : decode (sm_cc 252) 113 = .ok (.invokevirtual 76, 3) := by decide +kernel
theorem kr_252_76 : sm_at mt_k (sm_ow 252) 76 = some (76, 0, 143, 0, 1407) := by decide +kernel
theorem dc_252_116 : decode (sm_cc 252) 116 = .ok (.iinc 1 (1), 3) := by decide +kernel
theorem dc_252_119 : decode (sm_cc 252) 119 = .ok (.goto (-51), 3) := by decide +kernel
theorem dc_252_122 : decode (sm_cc 252) 122 = .ok (.aload_n 0, 1) := by decide +kernel
theorem dc_252_123 : decode (sm_cc 252) 123 = .ok (.getfield 55, 3) := by decide +kernel
theorem fr_252_55 : sm_at mt_f (sm_ow 252) 55 = some (55, 2, 13, 0, 389) := by decide +kernel
theorem dc_252_126 : decode (sm_cc 252) 126 = .ok (.istore_n 1, 1) := by decide +kernel
theorem dc_252_127 : decode (sm_cc 252) 127 = .ok (.iconst 1, 1) := by decide +kernel
theorem dc_252_128 : decode (sm_cc 252) 128 = .ok (.istore_n 2, 1) := by decide +kernel
theorem dc_252_129 : decode (sm_cc 252) 129 = .ok (.iload_n 2, 1) := by decide +kernel
theorem dc_252_130 : decode (sm_cc 252) 130 = .ok (.aload_n 0, 1) := by decide +kernel
theorem dc_252_131 : decode (sm_cc 252) 131 = .ok (.getfield 59, 3) := by decide +kernel
theorem dc_252_134 : decode (sm_cc 252) 134 = .ok (.if_icmp .gt (40), 3) := by decide +kernel
theorem dc_252_137 : decode (sm_cc 252) 137 = .ok (.iload_n 2, 1) := by decide +kernel
theorem dc_252_138 : decode (sm_cc 252) 138 = .ok (.sipush (1500), 3) := by decide +kernel
theorem dc_252_141 : decode (sm_cc 252) 141 = .ok (.if_icmp .gt (33), 3) := by decide +kernel
theorem dc_252_144 : decode (sm_cc 252) 144 = .ok (.aload_n 0, 1) := by decide +kernel
theorem dc_252_145 : decode (sm_cc 252) 145 = .ok (.getfield 11, 3) := by decide +kernel
theorem dc_252_148 : decode (sm_cc 252) 148 = .ok (.iload_n 2, 1) := by decide +kernel
theorem dc_252_149 : decode (sm_cc 252) 149 = .ok (.iaload, 1) := by decide +kernel
theorem dc_252_150 : decode (sm_cc 252) 150 = .ok (.ifCond .eq (18), 3) := by decide +kernel
theorem dc_252_168 : decode (sm_cc 252) 168 = .ok (.iinc 2 (1), 3) := by decide +kernel
theorem dc_252_171 : decode (sm_cc 252) 171 = .ok (.goto (-42), 3) := by decide +kernel
theorem dc_252_153 : decode (sm_cc 252) 153 = .ok (.aload_n 0, 1) := by decide +kernel
theorem dc_252_154 : decode (sm_cc 252) 154 = .ok (.getfield 51, 3) := by decide +kernel
theorem dc_252_157 : decode (sm_cc 252) 157 = .ok (.iload_n 2, 1) := by decide +kernel
theorem dc_252_158 : decode (sm_cc 252) 158 = .ok (.baload, 1) := by decide +kernel
theorem dc_252_159 : decode (sm_cc 252) 159 = .ok (.ifCond .ne (9), 3) := by decide +kernel
theorem dc_252_162 : decode (sm_cc 252) 162 = .ok (.aload_n 0, 1) := by decide +kernel
theorem dc_252_163 : decode (sm_cc 252) 163 = .ok (.iload_n 2, 1) := by decide +kernel
theorem dc_252_164 : decode (sm_cc 252) 164 = .ok (.iconst 2, 1) := by decide +kernel
theorem dc_252_165 : decode (sm_cc 252) 165 = .ok (.invokevirtual 76, 3) := by decide +kernel
theorem dc_252_174 : decode (sm_cc 252) 174 = .ok (.iconst 1, 1) := by decide +kernel
theorem dc_252_175 : decode (sm_cc 252) 175 = .ok (.istore_n 2, 1) := by decide +kernel
theorem dc_252_176 : decode (sm_cc 252) 176 = .ok (.iload_n 2, 1) := by decide +kernel
theorem dc_252_177 : decode (sm_cc 252) 177 = .ok (.aload_n 0, 1) := by decide +kernel
theorem dc_252_178 : decode (sm_cc 252) 178 = .ok (.getfield 59, 3) := by decide +kernel
theorem dc_252_181 : decode (sm_cc 252) 181 = .ok (.if_icmp .gt (39), 3) := by decide +kernel
theorem dc_252_184 : decode (sm_cc 252) 184 = .ok (.iload_n 2, 1) := by decide +kernel
theorem dc_252_185 : decode (sm_cc 252) 185 = .ok (.sipush (1500), 3) := by decide +kernel
theorem dc_252_188 : decode (sm_cc 252) 188 = .ok (.if_icmp .gt (32), 3) := by decide +kernel
theorem dc_252_191 : decode (sm_cc 252) 191 = .ok (.aload_n 0, 1) := by decide +kernel
theorem dc_252_192 : decode (sm_cc 252) 192 = .ok (.getfield 11, 3) := by decide +kernel
theorem dc_252_195 : decode (sm_cc 252) 195 = .ok (.iload_n 2, 1) := by decide +kernel
theorem dc_252_196 : decode (sm_cc 252) 196 = .ok (.iaload, 1) := by decide +kernel
theorem dc_252_197 : decode (sm_cc 252) 197 = .ok (.ifCond .eq (17), 3) := by decide +kernel
theorem dc_252_214 : decode (sm_cc 252) 214 = .ok (.iinc 2 (1), 3) := by decide +kernel
theorem dc_252_217 : decode (sm_cc 252) 217 = .ok (.goto (-41), 3) := by decide +kernel
theorem dc_252_200 : decode (sm_cc 252) 200 = .ok (.aload_n 0, 1) := by decide +kernel
theorem dc_252_201 : decode (sm_cc 252) 201 = .ok (.getfield 51, 3) := by decide +kernel
theorem dc_252_204 : decode (sm_cc 252) 204 = .ok (.iload_n 2, 1) := by decide +kernel
theorem dc_252_205 : decode (sm_cc 252) 205 = .ok (.baload, 1) := by decide +kernel
theorem dc_252_206 : decode (sm_cc 252) 206 = .ok (.ifCond .ne (8), 3) := by decide +kernel
theorem dc_252_209 : decode (sm_cc 252) 209 = .ok (.aload_n 0, 1) := by decide +kernel
theorem dc_252_210 : decode (sm_cc 252) 210 = .ok (.iload_n 2, 1) := by decide +kernel
theorem dc_252_211 : decode (sm_cc 252) 211 = .ok (.invokevirtual 80, 3) := by decide +kernel
theorem kr_252_80 : sm_at mt_k (sm_ow 252) 80 = some (80, 0, 146, 0, 1419) := by decide +kernel
theorem dc_252_220 : decode (sm_cc 252) 220 = .ok (.iload_n 1, 1) := by decide +kernel
theorem dc_252_221 : decode (sm_cc 252) 221 = .ok (.aload_n 0, 1) := by decide +kernel
theorem dc_252_222 : decode (sm_cc 252) 222 = .ok (.getfield 55, 3) := by decide +kernel
theorem dc_252_225 : decode (sm_cc 252) 225 = .ok (.isub, 1) := by decide +kernel
theorem dc_252_226 : decode (sm_cc 252) 226 = .ok (.ireturn, 1) := by decide +kernel
theorem rt_252 : sm_rt 252 = some .int := by decide +kernel
theorem mCt_1 {d : Nat} {S Sf : cS} {v : Option Value}   (hB : ∀ lv1 : sm_L, sm_get lv1 0 = some (.ref 2) → sm_get lv1 1 = some (.int (nI 1)) → Bod (d + 8) 252 7 lv1 [] (wI 216 (nI 0) S) v Sf) : Bod (d + 8) 252 0 [(0, .ref 2)] [] S v Sf := by
  refine Bod.go dc_252_0 rfl ?_
  refine Bod.ic 0 (by decide) dc_252_1 ?_
  refine Bod.put dc_252_2 fr_252_73 (mk_2 _) (Nat.le_of_ble_eq_true rfl) pf_2_16 (st_216 _ _) (mu_I _ _ _) ?_
  refine Bod.ic 1 (by decide) dc_252_5 ?_
  refine Bod.istn dc_252_6 (by rw [ml_252]; exact Nat.le_of_ble_eq_true rfl) ?_
  exact hB _ (by first | rfl | exact (by repeat (first | exact rfl | exact sm_get_p1 | exact sm_get_p2e | refine sm_get_p1m (by decide) (by decide) ?_ | refine sm_get_p1n (by decide) rfl ?_ | refine sm_get_p2n (by decide) (by decide) rfl ?_ | refine sm_get_p2m (by decide) (by decide) (by decide) ?_))) (by first | rfl | exact (by repeat (first | exact rfl | exact sm_get_p1 | exact sm_get_p2e | refine sm_get_p1m (by decide) (by decide) ?_ | refine sm_get_p1n (by decide) rfl ?_ | refine sm_get_p2n (by decide) (by decide) rfl ?_ | refine sm_get_p2m (by decide) (by decide) (by decide) ?_)))
theorem mCtA_1 {d : Nat} {S Sf : cS} {v : Option Value} {lv : sm_L} {ni : Nat} {f215 : Nat} (q0 : sm_get lv 0 = some (.ref 2)) (q1 : sm_get lv 1 = some (.int (nI ni))) (mni : ni < 2 ^ 20) (hf215 : sI S 215 = nI f215) (mf215 : f215 < 1501) (b1 : f215 < ni) (hB : ∀ lv1 : sm_L, sm_get lv1 0 = some (.ref 2) → Bod (d + 8) 252 66 lv1 [] (S) v Sf) : Bod (d + 8) 252 7 lv [] S v Sf := by
  refine Bod.ildnG dc_252_7 (by repeat (first | exact q1 | exact sm_get_p1 | exact sm_get_p2e | refine sm_get_p1m (by decide) (by decide) ?_ | refine sm_get_p1n (by decide) rfl ?_ | refine sm_get_p2n (by decide) (by decide) rfl ?_ | refine sm_get_p2m (by decide) (by decide) (by decide) ?_)) ?_
  refine Bod.aldnG dc_252_8 (by repeat (first | exact q0 | exact sm_get_p1 | exact sm_get_p2e | refine sm_get_p1m (by decide) (by decide) ?_ | refine sm_get_p1n (by decide) rfl ?_ | refine sm_get_p2n (by decide) (by decide) rfl ?_ | refine sm_get_p2m (by decide) (by decide) (by decide) ?_)) ?_
  refine Bod.get dc_252_9 fr_252_59 (mk_2 _) rfl ?_
  refine Bod.eqI (nI f215) (by first | assumption | rfl | exact congrArg nI (by omega) | (simp (disch := omega) only [rI, rIe, rA, rIA, rLA, rJA, rVI, rQI, rVA, rQA, upd_at,  rAI, rLI, rJI, nI_add, pk_sub, kc_0, kc_1, kc_2, kc_3, kc_4, kc_5, reduceIte, Nat.reduceEqDiff, Nat.add_zero, rI_hold, rI_hold, rL_hold, hf215]; done)) ?_
  refine Bod.icT dc_252_12 rfl (k2_gt_T ni f215 rfl rfl (by omega) (by omega)) ?_
  exact hB _ (by repeat (first | exact q0 | exact sm_get_p1 | exact sm_get_p2e | refine sm_get_p1m (by decide) (by decide) ?_ | refine sm_get_p1n (by decide) rfl ?_ | refine sm_get_p2n (by decide) (by decide) rfl ?_ | refine sm_get_p2m (by decide) (by decide) (by decide) ?_))
theorem mCtA_2 {d : Nat} {S Sf : cS} {v : Option Value} {lv : sm_L} {ni : Nat} {f215 : Nat} (q0 : sm_get lv 0 = some (.ref 2)) (q1 : sm_get lv 1 = some (.int (nI ni))) (mni : ni < 2 ^ 20) (hf215 : sI S 215 = nI f215) (mf215 : f215 < 1501) (b1 : ni ≤ f215) (b2 : 1500 < ni) (hB : ∀ lv1 : sm_L, sm_get lv1 0 = some (.ref 2) → Bod (d + 8) 252 66 lv1 [] (S) v Sf) : Bod (d + 8) 252 7 lv [] S v Sf := by
  refine Bod.ildnG dc_252_7 (by repeat (first | exact q1 | exact sm_get_p1 | exact sm_get_p2e | refine sm_get_p1m (by decide) (by decide) ?_ | refine sm_get_p1n (by decide) rfl ?_ | refine sm_get_p2n (by decide) (by decide) rfl ?_ | refine sm_get_p2m (by decide) (by decide) (by decide) ?_)) ?_
  refine Bod.aldnG dc_252_8 (by repeat (first | exact q0 | exact sm_get_p1 | exact sm_get_p2e | refine sm_get_p1m (by decide) (by decide) ?_ | refine sm_get_p1n (by decide) rfl ?_ | refine sm_get_p2n (by decide) (by decide) rfl ?_ | refine sm_get_p2m (by decide) (by decide) (by decide) ?_)) ?_
  refine Bod.get dc_252_9 fr_252_59 (mk_2 _) rfl ?_
  refine Bod.eqI (nI f215) (by first | assumption | rfl | exact congrArg nI (by omega) | (simp (disch := omega) only [rI, rIe, rA, rIA, rLA, rJA, rVI, rQI, rVA, rQA, upd_at,  rAI, rLI, rJI, nI_add, pk_sub, kc_0, kc_1, kc_2, kc_3, kc_4, kc_5, reduceIte, Nat.reduceEqDiff, Nat.add_zero, rI_hold, rI_hold, rL_hold, hf215]; done)) ?_
  refine Bod.icF dc_252_12 rfl (k2_gt_F ni f215 rfl rfl (by omega) (by omega)) ?_
  refine Bod.ildnG dc_252_15 (by repeat (first | exact q1 | exact sm_get_p1 | exact sm_get_p2e | refine sm_get_p1m (by decide) (by decide) ?_ | refine sm_get_p1n (by decide) rfl ?_ | refine sm_get_p2n (by decide) (by decide) rfl ?_ | refine sm_get_p2m (by decide) (by decide) (by decide) ?_)) ?_
  refine Bod.sip 1500 (by decide) dc_252_16 ?_
  refine Bod.icT dc_252_19 rfl (k2_gt_T ni 1500 rfl rfl (by omega) (by omega)) ?_
  exact hB _ (by repeat (first | exact q0 | exact sm_get_p1 | exact sm_get_p2e | refine sm_get_p1m (by decide) (by decide) ?_ | refine sm_get_p1n (by decide) rfl ?_ | refine sm_get_p2n (by decide) (by decide) rfl ?_ | refine sm_get_p2m (by decide) (by decide) (by decide) ?_))
theorem mCtA_3 {d : Nat} {S Sf : cS} {v : Option Value} {lv : sm_L} {ni : Nat} {f215 : Nat} {e3 : Nat} (q0 : sm_get lv 0 = some (.ref 2)) (q1 : sm_get lv 1 = some (.int (nI ni))) (mni : ni < 2 ^ 20) (hf215 : sI S 215 = nI f215) (mf215 : f215 < 1501) (b1 : ni ≤ f215) (b2 : ni ≤ 1500) (b3 : ni < 1501) (he3 : sA (wA 15 ni (vp_nar .boolean (nI 0)) S) 3 ni = nI e3) (me3 : e3 < 2 ^ 20) (b4 : e3 = 0) (hB : ∀ lv1 : sm_L, sm_get lv1 0 = some (.ref 2) → sm_get lv1 1 = some (.int (nI (ni + 1))) → Bod (d + 8) 252 7 lv1 [] (wA 15 ni (vp_nar .boolean (nI 0)) S) v Sf) : Bod (d + 8) 252 7 lv [] S v Sf := by
  refine Bod.ildnG dc_252_7 (by repeat (first | exact q1 | exact sm_get_p1 | exact sm_get_p2e | refine sm_get_p1m (by decide) (by decide) ?_ | refine sm_get_p1n (by decide) rfl ?_ | refine sm_get_p2n (by decide) (by decide) rfl ?_ | refine sm_get_p2m (by decide) (by decide) (by decide) ?_)) ?_
  refine Bod.aldnG dc_252_8 (by repeat (first | exact q0 | exact sm_get_p1 | exact sm_get_p2e | refine sm_get_p1m (by decide) (by decide) ?_ | refine sm_get_p1n (by decide) rfl ?_ | refine sm_get_p2n (by decide) (by decide) rfl ?_ | refine sm_get_p2m (by decide) (by decide) (by decide) ?_)) ?_
  refine Bod.get dc_252_9 fr_252_59 (mk_2 _) rfl ?_
  refine Bod.eqI (nI f215) (by first | assumption | rfl | exact congrArg nI (by omega) | (simp (disch := omega) only [rI, rIe, rA, rIA, rLA, rJA, rVI, rQI, rVA, rQA, upd_at,  rAI, rLI, rJI, nI_add, pk_sub, kc_0, kc_1, kc_2, kc_3, kc_4, kc_5, reduceIte, Nat.reduceEqDiff, Nat.add_zero, rI_hold, rI_hold, rL_hold, hf215]; done)) ?_
  refine Bod.icF dc_252_12 rfl (k2_gt_F ni f215 rfl rfl (by omega) (by omega)) ?_
  refine Bod.ildnG dc_252_15 (by repeat (first | exact q1 | exact sm_get_p1 | exact sm_get_p2e | refine sm_get_p1m (by decide) (by decide) ?_ | refine sm_get_p1n (by decide) rfl ?_ | refine sm_get_p2n (by decide) (by decide) rfl ?_ | refine sm_get_p2m (by decide) (by decide) (by decide) ?_)) ?_
  refine Bod.sip 1500 (by decide) dc_252_16 ?_
  refine Bod.icF dc_252_19 rfl (k2_gt_F ni 1500 rfl rfl (by omega) (by omega)) ?_
  refine Bod.aldnG dc_252_22 (by repeat (first | exact q0 | exact sm_get_p1 | exact sm_get_p2e | refine sm_get_p1m (by decide) (by decide) ?_ | refine sm_get_p1n (by decide) rfl ?_ | refine sm_get_p2n (by decide) (by decide) rfl ?_ | refine sm_get_p2m (by decide) (by decide) (by decide) ?_)) ?_
  refine Bod.get dc_252_23 fr_252_51 (mk_2 _) rfl ?_
  refine Bod.ildnG dc_252_26 (by repeat (first | exact q1 | exact sm_get_p1 | exact sm_get_p2e | refine sm_get_p1m (by decide) (by decide) ?_ | refine sm_get_p1n (by decide) rfl ?_ | refine sm_get_p2n (by decide) (by decide) rfl ?_ | refine sm_get_p2m (by decide) (by decide) (by decide) ?_)) ?_
  refine Bod.ic 0 (by decide) dc_252_27 ?_
  refine Bod.zastN ni rfl (by omega) (by omega) dc_252_28 (mk_15 _) (sa_15 _ _ _) (mu_A _ _ _ _) ?_
  refine Bod.aldnG dc_252_29 (by repeat (first | exact q0 | exact sm_get_p1 | exact sm_get_p2e | refine sm_get_p1m (by decide) (by decide) ?_ | refine sm_get_p1n (by decide) rfl ?_ | refine sm_get_p2n (by decide) (by decide) rfl ?_ | refine sm_get_p2m (by decide) (by decide) (by decide) ?_)) ?_
  refine Bod.get dc_252_30 fr_252_11 (mk_2 _) rfl ?_
  refine Bod.ildnG dc_252_33 (by repeat (first | exact q1 | exact sm_get_p1 | exact sm_get_p2e | refine sm_get_p1m (by decide) (by decide) ?_ | refine sm_get_p1n (by decide) rfl ?_ | refine sm_get_p2n (by decide) (by decide) rfl ?_ | refine sm_get_p2m (by decide) (by decide) (by decide) ?_)) ?_
  refine Bod.ialdN ni rfl (by omega) (by omega) dc_252_34 (mk_3 _) ?_
  refine Bod.eqI (nI e3) (by first | assumption | (simp (disch := omega) only [rI, rIe, rA, rIA, rLA, rJA, rVI, rQI, rVA, rQA, upd_at,  rAI, rLI, rJI, nI_add, pk_sub, kc_0, kc_1, kc_2, kc_3, kc_4, kc_5, reduceIte, Nat.reduceEqDiff, Nat.add_zero, rI_hold, rI_hold, rL_hold, hf215, he3]; done) | (simp (disch := omega) only [rI, rIe, rA, rIA, rLA, rJA, rVI, rQI, rVA, rQA, upd_at,  rAI, rLI, rJI, nI_add, pk_sub, kc_0, kc_1, kc_2, kc_3, kc_4, kc_5, reduceIte, Nat.reduceEqDiff, Nat.add_zero, rI_hold, rI_hold, rL_hold, hf215, he3]; exact congrArg nI (by omega))) ?_
  refine Bod.ifT dc_252_35 rfl (k1_eq_T (k_eq e3 0 rfl rfl (by omega))) ?_
  refine Bod.incN (ni + 1) (by rw [kc_1, nI_add]) dc_252_60 (by rw [ml_252]; exact Nat.le_of_ble_eq_true rfl) (by repeat (first | exact q1 | exact sm_get_p1 | exact sm_get_p2e | refine sm_get_p1m (by decide) (by decide) ?_ | refine sm_get_p1n (by decide) rfl ?_ | refine sm_get_p2n (by decide) (by decide) rfl ?_ | refine sm_get_p2m (by decide) (by decide) (by decide) ?_)) ?_
  refine Bod.go dc_252_63 rfl ?_
  exact hB _ (by repeat (first | exact q0 | exact sm_get_p1 | exact sm_get_p2e | refine sm_get_p1m (by decide) (by decide) ?_ | refine sm_get_p1n (by decide) rfl ?_ | refine sm_get_p2n (by decide) (by decide) rfl ?_ | refine sm_get_p2m (by decide) (by decide) (by decide) ?_)) (by repeat (first | exact q0 | exact sm_get_p1 | exact sm_get_p2e | refine sm_get_p1m (by decide) (by decide) ?_ | refine sm_get_p1n (by decide) rfl ?_ | refine sm_get_p2n (by decide) (by decide) rfl ?_ | refine sm_get_p2m (by decide) (by decide) (by decide) ?_))
theorem mCtA_4 {d : Nat} {S Sf : cS} {v : Option Value} {lv : sm_L} {ni : Nat} {f215 : Nat} {e3 : Nat} {e5 : Nat} {e6 : Nat} (q0 : sm_get lv 0 = some (.ref 2)) (q1 : sm_get lv 1 = some (.int (nI ni))) (mni : ni < 2 ^ 20) (hf215 : sI S 215 = nI f215) (mf215 : f215 < 1501) (b1 : ni ≤ f215) (b2 : ni ≤ 1500) (b3 : ni < 1501) (he3 : sA (wA 15 ni (vp_nar .boolean (nI 0)) S) 3 ni = nI e3) (me3 : e3 < 2 ^ 20) (b4 : e3 ≠ 0) (he5 : sA (wA 15 ni (vp_nar .boolean (nI 0)) S) 5 ni = nI e5) (me5 : e5 < 2 ^ 20) (he6 : sA (wA 15 ni (vp_nar .boolean (nI 0)) S) 6 ni = nI e6) (me6 : e6 < 2 ^ 20) (b5 : (e5 + e6) ≤ 0) (hB : ∀ lv1 : sm_L, sm_get lv1 0 = some (.ref 2) → sm_get lv1 1 = some (.int (nI (ni + 1))) → Bod (d + 8) 252 7 lv1 [] (wA 15 ni (vp_nar .boolean (nI 0)) S) v Sf) : Bod (d + 8) 252 7 lv [] S v Sf := by
  refine Bod.ildnG dc_252_7 (by repeat (first | exact q1 | exact sm_get_p1 | exact sm_get_p2e | refine sm_get_p1m (by decide) (by decide) ?_ | refine sm_get_p1n (by decide) rfl ?_ | refine sm_get_p2n (by decide) (by decide) rfl ?_ | refine sm_get_p2m (by decide) (by decide) (by decide) ?_)) ?_
  refine Bod.aldnG dc_252_8 (by repeat (first | exact q0 | exact sm_get_p1 | exact sm_get_p2e | refine sm_get_p1m (by decide) (by decide) ?_ | refine sm_get_p1n (by decide) rfl ?_ | refine sm_get_p2n (by decide) (by decide) rfl ?_ | refine sm_get_p2m (by decide) (by decide) (by decide) ?_)) ?_
  refine Bod.get dc_252_9 fr_252_59 (mk_2 _) rfl ?_
  refine Bod.eqI (nI f215) (by first | assumption | rfl | exact congrArg nI (by omega) | (simp (disch := omega) only [rI, rIe, rA, rIA, rLA, rJA, rVI, rQI, rVA, rQA, upd_at,  rAI, rLI, rJI, nI_add, pk_sub, kc_0, kc_1, kc_2, kc_3, kc_4, kc_5, reduceIte, Nat.reduceEqDiff, Nat.add_zero, rI_hold, rI_hold, rL_hold, hf215]; done)) ?_
  refine Bod.icF dc_252_12 rfl (k2_gt_F ni f215 rfl rfl (by omega) (by omega)) ?_
  refine Bod.ildnG dc_252_15 (by repeat (first | exact q1 | exact sm_get_p1 | exact sm_get_p2e | refine sm_get_p1m (by decide) (by decide) ?_ | refine sm_get_p1n (by decide) rfl ?_ | refine sm_get_p2n (by decide) (by decide) rfl ?_ | refine sm_get_p2m (by decide) (by decide) (by decide) ?_)) ?_
  refine Bod.sip 1500 (by decide) dc_252_16 ?_
  refine Bod.icF dc_252_19 rfl (k2_gt_F ni 1500 rfl rfl (by omega) (by omega)) ?_
  refine Bod.aldnG dc_252_22 (by repeat (first | exact q0 | exact sm_get_p1 | exact sm_get_p2e | refine sm_get_p1m (by decide) (by decide) ?_ | refine sm_get_p1n (by decide) rfl ?_ | refine sm_get_p2n (by decide) (by decide) rfl ?_ | refine sm_get_p2m (by decide) (by decide) (by decide) ?_)) ?_
  refine Bod.get dc_252_23 fr_252_51 (mk_2 _) rfl ?_
  refine Bod.ildnG dc_252_26 (by repeat (first | exact q1 | exact sm_get_p1 | exact sm_get_p2e | refine sm_get_p1m (by decide) (by decide) ?_ | refine sm_get_p1n (by decide) rfl ?_ | refine sm_get_p2n (by decide) (by decide) rfl ?_ | refine sm_get_p2m (by decide) (by decide) (by decide) ?_)) ?_
  refine Bod.ic 0 (by decide) dc_252_27 ?_
  refine Bod.zastN ni rfl (by omega) (by omega) dc_252_28 (mk_15 _) (sa_15 _ _ _) (mu_A _ _ _ _) ?_
  refine Bod.aldnG dc_252_29 (by repeat (first | exact q0 | exact sm_get_p1 | exact sm_get_p2e | refine sm_get_p1m (by decide) (by decide) ?_ | refine sm_get_p1n (by decide) rfl ?_ | refine sm_get_p2n (by decide) (by decide) rfl ?_ | refine sm_get_p2m (by decide) (by decide) (by decide) ?_)) ?_
  refine Bod.get dc_252_30 fr_252_11 (mk_2 _) rfl ?_
  refine Bod.ildnG dc_252_33 (by repeat (first | exact q1 | exact sm_get_p1 | exact sm_get_p2e | refine sm_get_p1m (by decide) (by decide) ?_ | refine sm_get_p1n (by decide) rfl ?_ | refine sm_get_p2n (by decide) (by decide) rfl ?_ | refine sm_get_p2m (by decide) (by decide) (by decide) ?_)) ?_
  refine Bod.ialdN ni rfl (by omega) (by omega) dc_252_34 (mk_3 _) ?_
  refine Bod.eqI (nI e3) (by first | assumption | (simp (disch := omega) only [rI, rIe, rA, rIA, rLA, rJA, rVI, rQI, rVA, rQA, upd_at,  rAI, rLI, rJI, nI_add, pk_sub, kc_0, kc_1, kc_2, kc_3, kc_4, kc_5, reduceIte, Nat.reduceEqDiff, Nat.add_zero, rI_hold, rI_hold, rL_hold, hf215, he3]; done) | (simp (disch := omega) only [rI, rIe, rA, rIA, rLA, rJA, rVI, rQI, rVA, rQA, upd_at,  rAI, rLI, rJI, nI_add, pk_sub, kc_0, kc_1, kc_2, kc_3, kc_4, kc_5, reduceIte, Nat.reduceEqDiff, Nat.add_zero, rI_hold, rI_hold, rL_hold, hf215, he3]; exact congrArg nI (by omega))) ?_
  refine Bod.ifF dc_252_35 rfl (k1_eq_F (k_ne e3 0 rfl rfl (by omega) (by omega) (by omega))) ?_
  refine Bod.aldnG dc_252_38 (by repeat (first | exact q0 | exact sm_get_p1 | exact sm_get_p2e | refine sm_get_p1m (by decide) (by decide) ?_ | refine sm_get_p1n (by decide) rfl ?_ | refine sm_get_p2n (by decide) (by decide) rfl ?_ | refine sm_get_p2m (by decide) (by decide) (by decide) ?_)) ?_
  refine Bod.get dc_252_39 fr_252_18 (mk_2 _) rfl ?_
  refine Bod.ildnG dc_252_42 (by repeat (first | exact q1 | exact sm_get_p1 | exact sm_get_p2e | refine sm_get_p1m (by decide) (by decide) ?_ | refine sm_get_p1n (by decide) rfl ?_ | refine sm_get_p2n (by decide) (by decide) rfl ?_ | refine sm_get_p2m (by decide) (by decide) (by decide) ?_)) ?_
  refine Bod.ialdN ni rfl (by omega) (by omega) dc_252_43 (mk_5 _) ?_
  refine Bod.eqI (nI e5) (by first | assumption | (simp (disch := omega) only [rI, rIe, rA, rIA, rLA, rJA, rVI, rQI, rVA, rQA, upd_at,  rAI, rLI, rJI, nI_add, pk_sub, kc_0, kc_1, kc_2, kc_3, kc_4, kc_5, reduceIte, Nat.reduceEqDiff, Nat.add_zero, rI_hold, rI_hold, rL_hold, hf215, he3, he5]; done) | (simp (disch := omega) only [rI, rIe, rA, rIA, rLA, rJA, rVI, rQI, rVA, rQA, upd_at,  rAI, rLI, rJI, nI_add, pk_sub, kc_0, kc_1, kc_2, kc_3, kc_4, kc_5, reduceIte, Nat.reduceEqDiff, Nat.add_zero, rI_hold, rI_hold, rL_hold, hf215, he3, he5]; exact congrArg nI (by omega))) ?_
  refine Bod.aldnG dc_252_44 (by repeat (first | exact q0 | exact sm_get_p1 | exact sm_get_p2e | refine sm_get_p1m (by decide) (by decide) ?_ | refine sm_get_p1n (by decide) rfl ?_ | refine sm_get_p2n (by decide) (by decide) rfl ?_ | refine sm_get_p2m (by decide) (by decide) (by decide) ?_)) ?_
  refine Bod.get dc_252_45 fr_252_21 (mk_2 _) rfl ?_
  refine Bod.ildnG dc_252_48 (by repeat (first | exact q1 | exact sm_get_p1 | exact sm_get_p2e | refine sm_get_p1m (by decide) (by decide) ?_ | refine sm_get_p1n (by decide) rfl ?_ | refine sm_get_p2n (by decide) (by decide) rfl ?_ | refine sm_get_p2m (by decide) (by decide) (by decide) ?_)) ?_
  refine Bod.ialdN ni rfl (by omega) (by omega) dc_252_49 (mk_6 _) ?_
  refine Bod.eqI (nI e6) (by first | assumption | (simp (disch := omega) only [rI, rIe, rA, rIA, rLA, rJA, rVI, rQI, rVA, rQA, upd_at,  rAI, rLI, rJI, nI_add, pk_sub, kc_0, kc_1, kc_2, kc_3, kc_4, kc_5, reduceIte, Nat.reduceEqDiff, Nat.add_zero, rI_hold, rI_hold, rL_hold, hf215, he3, he5, he6]; done) | (simp (disch := omega) only [rI, rIe, rA, rIA, rLA, rJA, rVI, rQI, rVA, rQA, upd_at,  rAI, rLI, rJI, nI_add, pk_sub, kc_0, kc_1, kc_2, kc_3, kc_4, kc_5, reduceIte, Nat.reduceEqDiff, Nat.add_zero, rI_hold, rI_hold, rL_hold, hf215, he3, he5, he6]; exact congrArg nI (by omega))) ?_
  refine Bod.addN (e5 + e6) (by omega) dc_252_50 ?_
  refine Bod.ifT dc_252_51 rfl (k1_le_T (k_eq (e5 + e6) 0 (by first | assumption | (simp (disch := omega) only [rI, rIe, rA, rIA, rLA, rJA, rVI, rQI, rVA, rQA, upd_at,  rAI, rLI, rJI, nI_add, pk_sub, kc_0, kc_1, kc_2, kc_3, kc_4, kc_5, reduceIte, Nat.reduceEqDiff, Nat.add_zero, rI_hold, rI_hold, rL_hold, hf215, he3, he5, he6]; done) | (simp (disch := omega) only [rI, rIe, rA, rIA, rLA, rJA, rVI, rQI, rVA, rQA, upd_at,  rAI, rLI, rJI, nI_add, pk_sub, kc_0, kc_1, kc_2, kc_3, kc_4, kc_5, reduceIte, Nat.reduceEqDiff, Nat.add_zero, rI_hold, rI_hold, rL_hold, hf215, he3, he5, he6]; exact congrArg nI (by omega))) rfl (by omega))) ?_
  refine Bod.incN (ni + 1) (by rw [kc_1, nI_add]) dc_252_60 (by rw [ml_252]; exact Nat.le_of_ble_eq_true rfl) (by repeat (first | exact q1 | exact sm_get_p1 | exact sm_get_p2e | refine sm_get_p1m (by decide) (by decide) ?_ | refine sm_get_p1n (by decide) rfl ?_ | refine sm_get_p2n (by decide) (by decide) rfl ?_ | refine sm_get_p2m (by decide) (by decide) (by decide) ?_)) ?_
  refine Bod.go dc_252_63 rfl ?_
  exact hB _ (by repeat (first | exact q0 | exact sm_get_p1 | exact sm_get_p2e | refine sm_get_p1m (by decide) (by decide) ?_ | refine sm_get_p1n (by decide) rfl ?_ | refine sm_get_p2n (by decide) (by decide) rfl ?_ | refine sm_get_p2m (by decide) (by decide) (by decide) ?_)) (by repeat (first | exact q0 | exact sm_get_p1 | exact sm_get_p2e | refine sm_get_p1m (by decide) (by decide) ?_ | refine sm_get_p1n (by decide) rfl ?_ | refine sm_get_p2n (by decide) (by decide) rfl ?_ | refine sm_get_p2m (by decide) (by decide) (by decide) ?_))
theorem mCtA_5 {d : Nat} {S Sf : cS} {v : Option Value} {lv : sm_L} {ni : Nat} {f215 : Nat} {e3 : Nat} {e5 : Nat} {e6 : Nat} {S1 : cS} (q0 : sm_get lv 0 = some (.ref 2)) (q1 : sm_get lv 1 = some (.int (nI ni))) (mni : ni < 2 ^ 20) (hf215 : sI S 215 = nI f215) (mf215 : f215 < 1501) (b1 : ni ≤ f215) (b2 : ni ≤ 1500) (b3 : ni < 1501) (he3 : sA (wA 15 ni (vp_nar .boolean (nI 0)) S) 3 ni = nI e3) (me3 : e3 < 2 ^ 20) (b4 : e3 ≠ 0) (he5 : sA (wA 15 ni (vp_nar .boolean (nI 0)) S) 5 ni = nI e5) (me5 : e5 < 2 ^ 20) (he6 : sA (wA 15 ni (vp_nar .boolean (nI 0)) S) 6 ni = nI e6) (me6 : e6 < 2 ^ 20) (b5 : 0 < (e5 + e6)) (c1 : Ans (d + 8) 144 [.ref 2, .int (nI ni), .int (nI 1)] (wA 15 ni (vp_nar .boolean (nI 0)) S) none S1) (hB : ∀ lv1 : sm_L, sm_get lv1 0 = some (.ref 2) → sm_get lv1 1 = some (.int (nI (ni + 1))) → Bod (d + 8) 252 7 lv1 [] (S1) v Sf) : Bod (d + 8) 252 7 lv [] S v Sf := by
  refine Bod.ildnG dc_252_7 (by repeat (first | exact q1 | exact sm_get_p1 | exact sm_get_p2e | refine sm_get_p1m (by decide) (by decide) ?_ | refine sm_get_p1n (by decide) rfl ?_ | refine sm_get_p2n (by decide) (by decide) rfl ?_ | refine sm_get_p2m (by decide) (by decide) (by decide) ?_)) ?_
  refine Bod.aldnG dc_252_8 (by repeat (first | exact q0 | exact sm_get_p1 | exact sm_get_p2e | refine sm_get_p1m (by decide) (by decide) ?_ | refine sm_get_p1n (by decide) rfl ?_ | refine sm_get_p2n (by decide) (by decide) rfl ?_ | refine sm_get_p2m (by decide) (by decide) (by decide) ?_)) ?_
  refine Bod.get dc_252_9 fr_252_59 (mk_2 _) rfl ?_
  refine Bod.eqI (nI f215) (by first | assumption | rfl | exact congrArg nI (by omega) | (simp (disch := omega) only [rI, rIe, rA, rIA, rLA, rJA, rVI, rQI, rVA, rQA, upd_at,  rAI, rLI, rJI, nI_add, pk_sub, kc_0, kc_1, kc_2, kc_3, kc_4, kc_5, reduceIte, Nat.reduceEqDiff, Nat.add_zero, rI_hold, rI_hold, rL_hold, hf215]; done)) ?_
  refine Bod.icF dc_252_12 rfl (k2_gt_F ni f215 rfl rfl (by omega) (by omega)) ?_
  refine Bod.ildnG dc_252_15 (by repeat (first | exact q1 | exact sm_get_p1 | exact sm_get_p2e | refine sm_get_p1m (by decide) (by decide) ?_ | refine sm_get_p1n (by decide) rfl ?_ | refine sm_get_p2n (by decide) (by decide) rfl ?_ | refine sm_get_p2m (by decide) (by decide) (by decide) ?_)) ?_
  refine Bod.sip 1500 (by decide) dc_252_16 ?_
  refine Bod.icF dc_252_19 rfl (k2_gt_F ni 1500 rfl rfl (by omega) (by omega)) ?_
  refine Bod.aldnG dc_252_22 (by repeat (first | exact q0 | exact sm_get_p1 | exact sm_get_p2e | refine sm_get_p1m (by decide) (by decide) ?_ | refine sm_get_p1n (by decide) rfl ?_ | refine sm_get_p2n (by decide) (by decide) rfl ?_ | refine sm_get_p2m (by decide) (by decide) (by decide) ?_)) ?_
  refine Bod.get dc_252_23 fr_252_51 (mk_2 _) rfl ?_
  refine Bod.ildnG dc_252_26 (by repeat (first | exact q1 | exact sm_get_p1 | exact sm_get_p2e | refine sm_get_p1m (by decide) (by decide) ?_ | refine sm_get_p1n (by decide) rfl ?_ | refine sm_get_p2n (by decide) (by decide) rfl ?_ | refine sm_get_p2m (by decide) (by decide) (by decide) ?_)) ?_
  refine Bod.ic 0 (by decide) dc_252_27 ?_
  refine Bod.zastN ni rfl (by omega) (by omega) dc_252_28 (mk_15 _) (sa_15 _ _ _) (mu_A _ _ _ _) ?_
  refine Bod.aldnG dc_252_29 (by repeat (first | exact q0 | exact sm_get_p1 | exact sm_get_p2e | refine sm_get_p1m (by decide) (by decide) ?_ | refine sm_get_p1n (by decide) rfl ?_ | refine sm_get_p2n (by decide) (by decide) rfl ?_ | refine sm_get_p2m (by decide) (by decide) (by decide) ?_)) ?_
  refine Bod.get dc_252_30 fr_252_11 (mk_2 _) rfl ?_
  refine Bod.ildnG dc_252_33 (by repeat (first | exact q1 | exact sm_get_p1 | exact sm_get_p2e | refine sm_get_p1m (by decide) (by decide) ?_ | refine sm_get_p1n (by decide) rfl ?_ | refine sm_get_p2n (by decide) (by decide) rfl ?_ | refine sm_get_p2m (by decide) (by decide) (by decide) ?_)) ?_
  refine Bod.ialdN ni rfl (by omega) (by omega) dc_252_34 (mk_3 _) ?_
  refine Bod.eqI (nI e3) (by first | assumption | (simp (disch := omega) only [rI, rIe, rA, rIA, rLA, rJA, rVI, rQI, rVA, rQA, upd_at,  rAI, rLI, rJI, nI_add, pk_sub, kc_0, kc_1, kc_2, kc_3, kc_4, kc_5, reduceIte, Nat.reduceEqDiff, Nat.add_zero, rI_hold, rI_hold, rL_hold, hf215, he3]; done) | (simp (disch := omega) only [rI, rIe, rA, rIA, rLA, rJA, rVI, rQI, rVA, rQA, upd_at,  rAI, rLI, rJI, nI_add, pk_sub, kc_0, kc_1, kc_2, kc_3, kc_4, kc_5, reduceIte, Nat.reduceEqDiff, Nat.add_zero, rI_hold, rI_hold, rL_hold, hf215, he3]; exact congrArg nI (by omega))) ?_
  refine Bod.ifF dc_252_35 rfl (k1_eq_F (k_ne e3 0 rfl rfl (by omega) (by omega) (by omega))) ?_
  refine Bod.aldnG dc_252_38 (by repeat (first | exact q0 | exact sm_get_p1 | exact sm_get_p2e | refine sm_get_p1m (by decide) (by decide) ?_ | refine sm_get_p1n (by decide) rfl ?_ | refine sm_get_p2n (by decide) (by decide) rfl ?_ | refine sm_get_p2m (by decide) (by decide) (by decide) ?_)) ?_
  refine Bod.get dc_252_39 fr_252_18 (mk_2 _) rfl ?_
  refine Bod.ildnG dc_252_42 (by repeat (first | exact q1 | exact sm_get_p1 | exact sm_get_p2e | refine sm_get_p1m (by decide) (by decide) ?_ | refine sm_get_p1n (by decide) rfl ?_ | refine sm_get_p2n (by decide) (by decide) rfl ?_ | refine sm_get_p2m (by decide) (by decide) (by decide) ?_)) ?_
  refine Bod.ialdN ni rfl (by omega) (by omega) dc_252_43 (mk_5 _) ?_
  refine Bod.eqI (nI e5) (by first | assumption | (simp (disch := omega) only [rI, rIe, rA, rIA, rLA, rJA, rVI, rQI, rVA, rQA, upd_at,  rAI, rLI, rJI, nI_add, pk_sub, kc_0, kc_1, kc_2, kc_3, kc_4, kc_5, reduceIte, Nat.reduceEqDiff, Nat.add_zero, rI_hold, rI_hold, rL_hold, hf215, he3, he5]; done) | (simp (disch := omega) only [rI, rIe, rA, rIA, rLA, rJA, rVI, rQI, rVA, rQA, upd_at,  rAI, rLI, rJI, nI_add, pk_sub, kc_0, kc_1, kc_2, kc_3, kc_4, kc_5, reduceIte, Nat.reduceEqDiff, Nat.add_zero, rI_hold, rI_hold, rL_hold, hf215, he3, he5]; exact congrArg nI (by omega))) ?_
  refine Bod.aldnG dc_252_44 (by repeat (first | exact q0 | exact sm_get_p1 | exact sm_get_p2e | refine sm_get_p1m (by decide) (by decide) ?_ | refine sm_get_p1n (by decide) rfl ?_ | refine sm_get_p2n (by decide) (by decide) rfl ?_ | refine sm_get_p2m (by decide) (by decide) (by decide) ?_)) ?_
  refine Bod.get dc_252_45 fr_252_21 (mk_2 _) rfl ?_
  refine Bod.ildnG dc_252_48 (by repeat (first | exact q1 | exact sm_get_p1 | exact sm_get_p2e | refine sm_get_p1m (by decide) (by decide) ?_ | refine sm_get_p1n (by decide) rfl ?_ | refine sm_get_p2n (by decide) (by decide) rfl ?_ | refine sm_get_p2m (by decide) (by decide) (by decide) ?_)) ?_
  refine Bod.ialdN ni rfl (by omega) (by omega) dc_252_49 (mk_6 _) ?_
  refine Bod.eqI (nI e6) (by first | assumption | (simp (disch := omega) only [rI, rIe, rA, rIA, rLA, rJA, rVI, rQI, rVA, rQA, upd_at,  rAI, rLI, rJI, nI_add, pk_sub, kc_0, kc_1, kc_2, kc_3, kc_4, kc_5, reduceIte, Nat.reduceEqDiff, Nat.add_zero, rI_hold, rI_hold, rL_hold, hf215, he3, he5, he6]; done) | (simp (disch := omega) only [rI, rIe, rA, rIA, rLA, rJA, rVI, rQI, rVA, rQA, upd_at,  rAI, rLI, rJI, nI_add, pk_sub, kc_0, kc_1, kc_2, kc_3, kc_4, kc_5, reduceIte, Nat.reduceEqDiff, Nat.add_zero, rI_hold, rI_hold, rL_hold, hf215, he3, he5, he6]; exact congrArg nI (by omega))) ?_
  refine Bod.addN (e5 + e6) (by omega) dc_252_50 ?_
  refine Bod.ifF dc_252_51 rfl (k1_le_F (e5 + e6) rfl (by omega) (by omega)) ?_
  refine Bod.aldnG dc_252_54 (by repeat (first | exact q0 | exact sm_get_p1 | exact sm_get_p2e | refine sm_get_p1m (by decide) (by decide) ?_ | refine sm_get_p1n (by decide) rfl ?_ | refine sm_get_p2n (by decide) (by decide) rfl ?_ | refine sm_get_p2m (by decide) (by decide) (by decide) ?_)) ?_
  refine Bod.ildnG dc_252_55 (by repeat (first | exact q1 | exact sm_get_p1 | exact sm_get_p2e | refine sm_get_p1m (by decide) (by decide) ?_ | refine sm_get_p1n (by decide) rfl ?_ | refine sm_get_p2n (by decide) (by decide) rfl ?_ | refine sm_get_p2m (by decide) (by decide) (by decide) ?_)) ?_
  refine Bod.ic 1 (by decide) dc_252_56 ?_
  refine Bod.virt (r := []) dc_252_57 kr_252_84 ⟨Or.inl rfl, ow_144, cl_2⟩ (by rw [np_144]; rfl) (by rw [np_144]; rfl) (ob_of (mk_2 _)) (Nat.le_of_ble_eq_true rfl) (c1  ) ?_
  show Bod _ _ _ _ [] _ _ _
  refine Bod.incN (ni + 1) (by rw [kc_1, nI_add]) dc_252_60 (by rw [ml_252]; exact Nat.le_of_ble_eq_true rfl) (by repeat (first | exact q1 | exact sm_get_p1 | exact sm_get_p2e | refine sm_get_p1m (by decide) (by decide) ?_ | refine sm_get_p1n (by decide) rfl ?_ | refine sm_get_p2n (by decide) (by decide) rfl ?_ | refine sm_get_p2m (by decide) (by decide) (by decide) ?_)) ?_
  refine Bod.go dc_252_63 rfl ?_
  exact hB _ (by repeat (first | exact q0 | exact sm_get_p1 | exact sm_get_p2e | refine sm_get_p1m (by decide) (by decide) ?_ | refine sm_get_p1n (by decide) rfl ?_ | refine sm_get_p2n (by decide) (by decide) rfl ?_ | refine sm_get_p2m (by decide) (by decide) (by decide) ?_)) (by repeat (first | exact q0 | exact sm_get_p1 | exact sm_get_p2e | refine sm_get_p1m (by decide) (by decide) ?_ | refine sm_get_p1n (by decide) rfl ?_ | refine sm_get_p2n (by decide) (by decide) rfl ?_ | refine sm_get_p2m (by decide) (by decide) (by decide) ?_))
theorem mCtB_1 {d : Nat} {S Sf : cS} {v : Option Value} {lv : sm_L} (q0 : sm_get lv 0 = some (.ref 2)) (hB : ∀ lv1 : sm_L, sm_get lv1 0 = some (.ref 2) → sm_get lv1 1 = some (.int (nI 0)) → Bod (d + 8) 252 68 lv1 [] (S) v Sf) : Bod (d + 8) 252 66 lv [] S v Sf := by
  refine Bod.ic 0 (by decide) dc_252_66 ?_
  refine Bod.istn dc_252_67 (by rw [ml_252]; exact Nat.le_of_ble_eq_true rfl) ?_
  exact hB _ (by repeat (first | exact q0 | exact sm_get_p1 | exact sm_get_p2e | refine sm_get_p1m (by decide) (by decide) ?_ | refine sm_get_p1n (by decide) rfl ?_ | refine sm_get_p2n (by decide) (by decide) rfl ?_ | refine sm_get_p2m (by decide) (by decide) (by decide) ?_)) (by repeat (first | exact q0 | exact sm_get_p1 | exact sm_get_p2e | refine sm_get_p1m (by decide) (by decide) ?_ | refine sm_get_p1n (by decide) rfl ?_ | refine sm_get_p2n (by decide) (by decide) rfl ?_ | refine sm_get_p2m (by decide) (by decide) (by decide) ?_))
theorem mCtC_1 {d : Nat} {S Sf : cS} {v : Option Value} {lv : sm_L} {ni : Nat} (q0 : sm_get lv 0 = some (.ref 2)) (q1 : sm_get lv 1 = some (.int (nI ni))) (mni : ni < 2 ^ 20) (b1 : 1500 < ni) (hB : ∀ lv1 : sm_L, sm_get lv1 0 = some (.ref 2) → Bod (d + 8) 252 122 lv1 [] (S) v Sf) : Bod (d + 8) 252 68 lv [] S v Sf := by
  refine Bod.ildnG dc_252_68 (by repeat (first | exact q1 | exact sm_get_p1 | exact sm_get_p2e | refine sm_get_p1m (by decide) (by decide) ?_ | refine sm_get_p1n (by decide) rfl ?_ | refine sm_get_p2n (by decide) (by decide) rfl ?_ | refine sm_get_p2m (by decide) (by decide) (by decide) ?_)) ?_
  refine Bod.sip 1500 (by decide) dc_252_69 ?_
  refine Bod.icT dc_252_72 rfl (k2_gt_T ni 1500 rfl rfl (by omega) (by omega)) ?_
  exact hB _ (by repeat (first | exact q0 | exact sm_get_p1 | exact sm_get_p2e | refine sm_get_p1m (by decide) (by decide) ?_ | refine sm_get_p1n (by decide) rfl ?_ | refine sm_get_p2n (by decide) (by decide) rfl ?_ | refine sm_get_p2m (by decide) (by decide) (by decide) ?_))
theorem mCtC_2 {d : Nat} {S Sf : cS} {v : Option Value} {lv : sm_L} {ni : Nat} {f216 : Nat} (q0 : sm_get lv 0 = some (.ref 2)) (q1 : sm_get lv 1 = some (.int (nI ni))) (mni : ni < 2 ^ 20) (b1 : ni ≤ 1500) (hf216 : sI S 216 = nI f216) (mf216 : f216 < 1501) (b2 : f216 ≤ 0) (hB : ∀ lv1 : sm_L, sm_get lv1 0 = some (.ref 2) → Bod (d + 8) 252 122 lv1 [] (S) v Sf) : Bod (d + 8) 252 68 lv [] S v Sf := by
  refine Bod.ildnG dc_252_68 (by repeat (first | exact q1 | exact sm_get_p1 | exact sm_get_p2e | refine sm_get_p1m (by decide) (by decide) ?_ | refine sm_get_p1n (by decide) rfl ?_ | refine sm_get_p2n (by decide) (by decide) rfl ?_ | refine sm_get_p2m (by decide) (by decide) (by decide) ?_)) ?_
  refine Bod.sip 1500 (by decide) dc_252_69 ?_
  refine Bod.icF dc_252_72 rfl (k2_gt_F ni 1500 rfl rfl (by omega) (by omega)) ?_
  refine Bod.aldnG dc_252_75 (by repeat (first | exact q0 | exact sm_get_p1 | exact sm_get_p2e | refine sm_get_p1m (by decide) (by decide) ?_ | refine sm_get_p1n (by decide) rfl ?_ | refine sm_get_p2n (by decide) (by decide) rfl ?_ | refine sm_get_p2m (by decide) (by decide) (by decide) ?_)) ?_
  refine Bod.get dc_252_76 fr_252_73 (mk_2 _) rfl ?_
  refine Bod.eqI (nI f216) (by first | assumption | rfl | exact congrArg nI (by omega) | (simp (disch := omega) only [rI, rIe, rA, rIA, rLA, rJA, rVI, rQI, rVA, rQA, upd_at,  rAI, rLI, rJI, nI_add, pk_sub, kc_0, kc_1, kc_2, kc_3, kc_4, kc_5, reduceIte, Nat.reduceEqDiff, Nat.add_zero, rI_hold, rI_hold, rL_hold, hf216]; done)) ?_
  refine Bod.ifT dc_252_79 rfl (k1_le_T (k_eq f216 0 (by first | assumption | rfl | exact congrArg nI (by omega) | (simp (disch := omega) only [rI, rIe, rA, rIA, rLA, rJA, rVI, rQI, rVA, rQA, upd_at,  rAI, rLI, rJI, nI_add, pk_sub, kc_0, kc_1, kc_2, kc_3, kc_4, kc_5, reduceIte, Nat.reduceEqDiff, Nat.add_zero, rI_hold, rI_hold, rL_hold, hf216]; done)) rfl (by omega))) ?_
  exact hB _ (by repeat (first | exact q0 | exact sm_get_p1 | exact sm_get_p2e | refine sm_get_p1m (by decide) (by decide) ?_ | refine sm_get_p1n (by decide) rfl ?_ | refine sm_get_p2n (by decide) (by decide) rfl ?_ | refine sm_get_p2m (by decide) (by decide) (by decide) ?_))
theorem mCtC_3 {d : Nat} {S Sf : cS} {v : Option Value} {lv : sm_L} {ni : Nat} {f216 : Nat} (q0 : sm_get lv 0 = some (.ref 2)) (q1 : sm_get lv 1 = some (.int (nI ni))) (mni : ni < 2 ^ 20) (b1 : ni ≤ 1500) (hf216 : sI S 216 = nI f216) (mf216 : f216 < 1501) (b2 : 0 < f216) (b3 : 1500 < f216) (hB : ∀ lv1 : sm_L, sm_get lv1 0 = some (.ref 2) → Bod (d + 8) 252 122 lv1 [] (S) v Sf) : Bod (d + 8) 252 68 lv [] S v Sf := by
  refine Bod.ildnG dc_252_68 (by repeat (first | exact q1 | exact sm_get_p1 | exact sm_get_p2e | refine sm_get_p1m (by decide) (by decide) ?_ | refine sm_get_p1n (by decide) rfl ?_ | refine sm_get_p2n (by decide) (by decide) rfl ?_ | refine sm_get_p2m (by decide) (by decide) (by decide) ?_)) ?_
  refine Bod.sip 1500 (by decide) dc_252_69 ?_
  refine Bod.icF dc_252_72 rfl (k2_gt_F ni 1500 rfl rfl (by omega) (by omega)) ?_
  refine Bod.aldnG dc_252_75 (by repeat (first | exact q0 | exact sm_get_p1 | exact sm_get_p2e | refine sm_get_p1m (by decide) (by decide) ?_ | refine sm_get_p1n (by decide) rfl ?_ | refine sm_get_p2n (by decide) (by decide) rfl ?_ | refine sm_get_p2m (by decide) (by decide) (by decide) ?_)) ?_
  refine Bod.get dc_252_76 fr_252_73 (mk_2 _) rfl ?_
  refine Bod.eqI (nI f216) (by first | assumption | rfl | exact congrArg nI (by omega) | (simp (disch := omega) only [rI, rIe, rA, rIA, rLA, rJA, rVI, rQI, rVA, rQA, upd_at,  rAI, rLI, rJI, nI_add, pk_sub, kc_0, kc_1, kc_2, kc_3, kc_4, kc_5, reduceIte, Nat.reduceEqDiff, Nat.add_zero, rI_hold, rI_hold, rL_hold, hf216]; done)) ?_
  refine Bod.ifF dc_252_79 rfl (k1_le_F f216 rfl (by omega) (by omega)) ?_
  refine Bod.aldnG dc_252_82 (by repeat (first | exact q0 | exact sm_get_p1 | exact sm_get_p2e | refine sm_get_p1m (by decide) (by decide) ?_ | refine sm_get_p1n (by decide) rfl ?_ | refine sm_get_p2n (by decide) (by decide) rfl ?_ | refine sm_get_p2m (by decide) (by decide) (by decide) ?_)) ?_
  refine Bod.get dc_252_83 fr_252_73 (mk_2 _) rfl ?_
  refine Bod.eqI (nI f216) (by first | assumption | rfl | exact congrArg nI (by omega) | (simp (disch := omega) only [rI, rIe, rA, rIA, rLA, rJA, rVI, rQI, rVA, rQA, upd_at,  rAI, rLI, rJI, nI_add, pk_sub, kc_0, kc_1, kc_2, kc_3, kc_4, kc_5, reduceIte, Nat.reduceEqDiff, Nat.add_zero, rI_hold, rI_hold, rL_hold, hf216]; done)) ?_
  refine Bod.sip 1500 (by decide) dc_252_86 ?_
  refine Bod.icT dc_252_89 rfl (k2_gt_T f216 1500 rfl rfl (by omega) (by omega)) ?_
  exact hB _ (by repeat (first | exact q0 | exact sm_get_p1 | exact sm_get_p2e | refine sm_get_p1m (by decide) (by decide) ?_ | refine sm_get_p1n (by decide) rfl ?_ | refine sm_get_p2n (by decide) (by decide) rfl ?_ | refine sm_get_p2m (by decide) (by decide) (by decide) ?_))
theorem mCtC_4 {d : Nat} {S Sf : cS} {v : Option Value} {lv : sm_L} {ni : Nat} {f216 : Nat} {e14 : Nat} {S1 : cS} (q0 : sm_get lv 0 = some (.ref 2)) (q1 : sm_get lv 1 = some (.int (nI ni))) (mni : ni < 2 ^ 20) (b1 : ni ≤ 1500) (hf216 : sI S 216 = nI f216) (mf216 : f216 < 1501) (b2 : 0 < f216) (b3 : f216 ≤ 1500) (b4 : 1 ≤ f216) (he14 : sA (wI 216 (nI (f216 - 1)) S) 14 (f216 - 1) = nI e14) (me14 : e14 < 2 ^ 20) (c1 : Ans (d + 8) 143 [.ref 2, .int (nI e14), .int (nI 1)] (wI 216 (nI (f216 - 1)) S) none S1) (hB : ∀ lv1 : sm_L, sm_get lv1 0 = some (.ref 2) → sm_get lv1 1 = some (.int (nI (ni + 1))) → Bod (d + 8) 252 68 lv1 [] (S1) v Sf) : Bod (d + 8) 252 68 lv [] S v Sf := by
  refine Bod.ildnG dc_252_68 (by repeat (first | exact q1 | exact sm_get_p1 | exact sm_get_p2e | refine sm_get_p1m (by decide) (by decide) ?_ | refine sm_get_p1n (by decide) rfl ?_ | refine sm_get_p2n (by decide) (by decide) rfl ?_ | refine sm_get_p2m (by decide) (by decide) (by decide) ?_)) ?_
  refine Bod.sip 1500 (by decide) dc_252_69 ?_
  refine Bod.icF dc_252_72 rfl (k2_gt_F ni 1500 rfl rfl (by omega) (by omega)) ?_
  refine Bod.aldnG dc_252_75 (by repeat (first | exact q0 | exact sm_get_p1 | exact sm_get_p2e | refine sm_get_p1m (by decide) (by decide) ?_ | refine sm_get_p1n (by decide) rfl ?_ | refine sm_get_p2n (by decide) (by decide) rfl ?_ | refine sm_get_p2m (by decide) (by decide) (by decide) ?_)) ?_
  refine Bod.get dc_252_76 fr_252_73 (mk_2 _) rfl ?_
  refine Bod.eqI (nI f216) (by first | assumption | rfl | exact congrArg nI (by omega) | (simp (disch := omega) only [rI, rIe, rA, rIA, rLA, rJA, rVI, rQI, rVA, rQA, upd_at,  rAI, rLI, rJI, nI_add, pk_sub, kc_0, kc_1, kc_2, kc_3, kc_4, kc_5, reduceIte, Nat.reduceEqDiff, Nat.add_zero, rI_hold, rI_hold, rL_hold, hf216]; done)) ?_
  refine Bod.ifF dc_252_79 rfl (k1_le_F f216 rfl (by omega) (by omega)) ?_
  refine Bod.aldnG dc_252_82 (by repeat (first | exact q0 | exact sm_get_p1 | exact sm_get_p2e | refine sm_get_p1m (by decide) (by decide) ?_ | refine sm_get_p1n (by decide) rfl ?_ | refine sm_get_p2n (by decide) (by decide) rfl ?_ | refine sm_get_p2m (by decide) (by decide) (by decide) ?_)) ?_
  refine Bod.get dc_252_83 fr_252_73 (mk_2 _) rfl ?_
  refine Bod.eqI (nI f216) (by first | assumption | rfl | exact congrArg nI (by omega) | (simp (disch := omega) only [rI, rIe, rA, rIA, rLA, rJA, rVI, rQI, rVA, rQA, upd_at,  rAI, rLI, rJI, nI_add, pk_sub, kc_0, kc_1, kc_2, kc_3, kc_4, kc_5, reduceIte, Nat.reduceEqDiff, Nat.add_zero, rI_hold, rI_hold, rL_hold, hf216]; done)) ?_
  refine Bod.sip 1500 (by decide) dc_252_86 ?_
  refine Bod.icF dc_252_89 rfl (k2_gt_F f216 1500 rfl rfl (by omega) (by omega)) ?_
  refine Bod.aldnG dc_252_92 (by repeat (first | exact q0 | exact sm_get_p1 | exact sm_get_p2e | refine sm_get_p1m (by decide) (by decide) ?_ | refine sm_get_p1n (by decide) rfl ?_ | refine sm_get_p2n (by decide) (by decide) rfl ?_ | refine sm_get_p2m (by decide) (by decide) (by decide) ?_)) ?_
  refine Bod.go dc_252_93 rfl ?_
  refine Bod.get dc_252_94 fr_252_73 (mk_2 _) rfl ?_
  refine Bod.eqI (nI f216) (by first | assumption | rfl | exact congrArg nI (by omega) | (simp (disch := omega) only [rI, rIe, rA, rIA, rLA, rJA, rVI, rQI, rVA, rQA, upd_at,  rAI, rLI, rJI, nI_add, pk_sub, kc_0, kc_1, kc_2, kc_3, kc_4, kc_5, reduceIte, Nat.reduceEqDiff, Nat.add_zero, rI_hold, rI_hold, rL_hold, hf216]; done)) ?_
  refine Bod.ic 1 (by decide) dc_252_97 ?_
  refine Bod.subN (f216 - 1) (by omega) (by omega) dc_252_98 ?_
  refine Bod.put dc_252_99 fr_252_73 (mk_2 _) (Nat.le_of_ble_eq_true rfl) pf_2_16 (st_216 _ _) (mu_I _ _ _) ?_
  refine Bod.aldnG dc_252_102 (by repeat (first | exact q0 | exact sm_get_p1 | exact sm_get_p2e | refine sm_get_p1m (by decide) (by decide) ?_ | refine sm_get_p1n (by decide) rfl ?_ | refine sm_get_p2n (by decide) (by decide) rfl ?_ | refine sm_get_p2m (by decide) (by decide) (by decide) ?_)) ?_
  refine Bod.aldnG dc_252_103 (by repeat (first | exact q0 | exact sm_get_p1 | exact sm_get_p2e | refine sm_get_p1m (by decide) (by decide) ?_ | refine sm_get_p1n (by decide) rfl ?_ | refine sm_get_p2n (by decide) (by decide) rfl ?_ | refine sm_get_p2m (by decide) (by decide) (by decide) ?_)) ?_
  refine Bod.get dc_252_104 fr_252_48 (mk_2 _) rfl ?_
  refine Bod.aldnG dc_252_107 (by repeat (first | exact q0 | exact sm_get_p1 | exact sm_get_p2e | refine sm_get_p1m (by decide) (by decide) ?_ | refine sm_get_p1n (by decide) rfl ?_ | refine sm_get_p2n (by decide) (by decide) rfl ?_ | refine sm_get_p2m (by decide) (by decide) (by decide) ?_)) ?_
  refine Bod.get dc_252_108 fr_252_73 (mk_2 _) rfl ?_
  refine Bod.eqI (nI (f216 - 1)) (by first | assumption | (simp (disch := omega) only [rI, rIe, rA, rIA, rLA, rJA, rVI, rQI, rVA, rQA, upd_at,  rAI, rLI, rJI, nI_add, pk_sub, kc_0, kc_1, kc_2, kc_3, kc_4, kc_5, reduceIte, Nat.reduceEqDiff, Nat.add_zero, rI_hold, rI_hold, rL_hold, hf216]; done) | (simp (disch := omega) only [rI, rIe, rA, rIA, rLA, rJA, rVI, rQI, rVA, rQA, upd_at,  rAI, rLI, rJI, nI_add, pk_sub, kc_0, kc_1, kc_2, kc_3, kc_4, kc_5, reduceIte, Nat.reduceEqDiff, Nat.add_zero, rI_hold, rI_hold, rL_hold, hf216]; exact congrArg nI (by omega))) ?_
  refine Bod.ialdN (f216 - 1) rfl (by omega) (by omega) dc_252_111 (mk_14 _) ?_
  refine Bod.eqI (nI e14) (by first | assumption | (simp (disch := omega) only [rI, rIe, rA, rIA, rLA, rJA, rVI, rQI, rVA, rQA, upd_at,  rAI, rLI, rJI, nI_add, pk_sub, kc_0, kc_1, kc_2, kc_3, kc_4, kc_5, reduceIte, Nat.reduceEqDiff, Nat.add_zero, rI_hold, rI_hold, rL_hold, hf216, he14]; done) | (simp (disch := omega) only [rI, rIe, rA, rIA, rLA, rJA, rVI, rQI, rVA, rQA, upd_at,  rAI, rLI, rJI, nI_add, pk_sub, kc_0, kc_1, kc_2, kc_3, kc_4, kc_5, reduceIte, Nat.reduceEqDiff, Nat.add_zero, rI_hold, rI_hold, rL_hold, hf216, he14]; exact congrArg nI (by omega))) ?_
  refine Bod.ic 1 (by decide) dc_252_112 ?_
  refine Bod.virt (r := []) dc_252_113 kr_252_76 ⟨Or.inl rfl, ow_143, cl_2⟩ (by rw [np_143]; rfl) (by rw [np_143]; rfl) (ob_of (mk_2 _)) (Nat.le_of_ble_eq_true rfl) (c1  ) ?_
  show Bod _ _ _ _ [] _ _ _
  refine Bod.incN (ni + 1) (by rw [kc_1, nI_add]) dc_252_116 (by rw [ml_252]; exact Nat.le_of_ble_eq_true rfl) (by repeat (first | exact q1 | exact sm_get_p1 | exact sm_get_p2e | refine sm_get_p1m (by decide) (by decide) ?_ | refine sm_get_p1n (by decide) rfl ?_ | refine sm_get_p2n (by decide) (by decide) rfl ?_ | refine sm_get_p2m (by decide) (by decide) (by decide) ?_)) ?_
  refine Bod.go dc_252_119 rfl ?_
  exact hB _ (by repeat (first | exact q0 | exact sm_get_p1 | exact sm_get_p2e | refine sm_get_p1m (by decide) (by decide) ?_ | refine sm_get_p1n (by decide) rfl ?_ | refine sm_get_p2n (by decide) (by decide) rfl ?_ | refine sm_get_p2m (by decide) (by decide) (by decide) ?_)) (by repeat (first | exact q0 | exact sm_get_p1 | exact sm_get_p2e | refine sm_get_p1m (by decide) (by decide) ?_ | refine sm_get_p1n (by decide) rfl ?_ | refine sm_get_p2n (by decide) (by decide) rfl ?_ | refine sm_get_p2m (by decide) (by decide) (by decide) ?_))
theorem mCtD_1 {d : Nat} {S Sf : cS} {v : Option Value} {lv : sm_L} {al : Nat} (q0 : sm_get lv 0 = some (.ref 2)) (hal : sI S 213 = nI al) (mal : al < 2 ^ 20) (hB : ∀ lv1 : sm_L, sm_get lv1 0 = some (.ref 2) → sm_get lv1 1 = some (.int (nI al)) → sm_get lv1 2 = some (.int (nI 1)) → Bod (d + 8) 252 129 lv1 [] (S) v Sf) : Bod (d + 8) 252 122 lv [] S v Sf := by
  refine Bod.aldnG dc_252_122 (by repeat (first | exact q0 | exact sm_get_p1 | exact sm_get_p2e | refine sm_get_p1m (by decide) (by decide) ?_ | refine sm_get_p1n (by decide) rfl ?_ | refine sm_get_p2n (by decide) (by decide) rfl ?_ | refine sm_get_p2m (by decide) (by decide) (by decide) ?_)) ?_
  refine Bod.get dc_252_123 fr_252_55 (mk_2 _) rfl ?_
  refine Bod.eqI (nI al) (by first | assumption | rfl | exact congrArg nI (by omega) | (simp (disch := omega) only [rI, rIe, rA, rIA, rLA, rJA, rVI, rQI, rVA, rQA, upd_at,  rAI, rLI, rJI, nI_add, pk_sub, kc_0, kc_1, kc_2, kc_3, kc_4, kc_5, reduceIte, Nat.reduceEqDiff, Nat.add_zero, rI_hold, rI_hold, rL_hold, hal]; done)) ?_
  refine Bod.istn dc_252_126 (by rw [ml_252]; exact Nat.le_of_ble_eq_true rfl) ?_
  refine Bod.ic 1 (by decide) dc_252_127 ?_
  refine Bod.istn dc_252_128 (by rw [ml_252]; exact Nat.le_of_ble_eq_true rfl) ?_
  exact hB _ (by repeat (first | exact q0 | exact sm_get_p1 | exact sm_get_p2e | refine sm_get_p1m (by decide) (by decide) ?_ | refine sm_get_p1n (by decide) rfl ?_ | refine sm_get_p2n (by decide) (by decide) rfl ?_ | refine sm_get_p2m (by decide) (by decide) (by decide) ?_)) (by repeat (first | exact q0 | exact sm_get_p1 | exact sm_get_p2e | refine sm_get_p1m (by decide) (by decide) ?_ | refine sm_get_p1n (by decide) rfl ?_ | refine sm_get_p2n (by decide) (by decide) rfl ?_ | refine sm_get_p2m (by decide) (by decide) (by decide) ?_)) (by repeat (first | exact q0 | exact sm_get_p1 | exact sm_get_p2e | refine sm_get_p1m (by decide) (by decide) ?_ | refine sm_get_p1n (by decide) rfl ?_ | refine sm_get_p2n (by decide) (by decide) rfl ?_ | refine sm_get_p2m (by decide) (by decide) (by decide) ?_))
theorem mCtE_1 {d : Nat} {S Sf : cS} {v : Option Value} {lv : sm_L} {be : Nat} {ni : Nat} {f215 : Nat} (q0 : sm_get lv 0 = some (.ref 2)) (q1 : sm_get lv 1 = some (.int (nI be))) (q2 : sm_get lv 2 = some (.int (nI ni))) (mbe : be < 2 ^ 20) (mni : ni < 2 ^ 20) (hf215 : sI S 215 = nI f215) (mf215 : f215 < 1501) (b1 : f215 < ni) (hB : ∀ lv1 : sm_L, sm_get lv1 0 = some (.ref 2) → sm_get lv1 1 = some (.int (nI be)) → Bod (d + 8) 252 174 lv1 [] (S) v Sf) : Bod (d + 8) 252 129 lv [] S v Sf := by
  refine Bod.ildnG dc_252_129 (by repeat (first | exact q2 | exact sm_get_p1 | exact sm_get_p2e | refine sm_get_p1m (by decide) (by decide) ?_ | refine sm_get_p1n (by decide) rfl ?_ | refine sm_get_p2n (by decide) (by decide) rfl ?_ | refine sm_get_p2m (by decide) (by decide) (by decide) ?_)) ?_
  refine Bod.aldnG dc_252_130 (by repeat (first | exact q0 | exact sm_get_p1 | exact sm_get_p2e | refine sm_get_p1m (by decide) (by decide) ?_ | refine sm_get_p1n (by decide) rfl ?_ | refine sm_get_p2n (by decide) (by decide) rfl ?_ | refine sm_get_p2m (by decide) (by decide) (by decide) ?_)) ?_
  refine Bod.get dc_252_131 fr_252_59 (mk_2 _) rfl ?_
  refine Bod.eqI (nI f215) (by first | assumption | rfl | exact congrArg nI (by omega) | (simp (disch := omega) only [rI, rIe, rA, rIA, rLA, rJA, rVI, rQI, rVA, rQA, upd_at,  rAI, rLI, rJI, nI_add, pk_sub, kc_0, kc_1, kc_2, kc_3, kc_4, kc_5, reduceIte, Nat.reduceEqDiff, Nat.add_zero, rI_hold, rI_hold, rL_hold, hf215]; done)) ?_
  refine Bod.icT dc_252_134 rfl (k2_gt_T ni f215 rfl rfl (by omega) (by omega)) ?_
  exact hB _ (by repeat (first | exact q0 | exact sm_get_p1 | exact sm_get_p2e | refine sm_get_p1m (by decide) (by decide) ?_ | refine sm_get_p1n (by decide) rfl ?_ | refine sm_get_p2n (by decide) (by decide) rfl ?_ | refine sm_get_p2m (by decide) (by decide) (by decide) ?_)) (by repeat (first | exact q1 | exact sm_get_p1 | exact sm_get_p2e | refine sm_get_p1m (by decide) (by decide) ?_ | refine sm_get_p1n (by decide) rfl ?_ | refine sm_get_p2n (by decide) (by decide) rfl ?_ | refine sm_get_p2m (by decide) (by decide) (by decide) ?_))
theorem mCtE_2 {d : Nat} {S Sf : cS} {v : Option Value} {lv : sm_L} {be : Nat} {ni : Nat} {f215 : Nat} (q0 : sm_get lv 0 = some (.ref 2)) (q1 : sm_get lv 1 = some (.int (nI be))) (q2 : sm_get lv 2 = some (.int (nI ni))) (mbe : be < 2 ^ 20) (mni : ni < 2 ^ 20) (hf215 : sI S 215 = nI f215) (mf215 : f215 < 1501) (b1 : ni ≤ f215) (b2 : 1500 < ni) (hB : ∀ lv1 : sm_L, sm_get lv1 0 = some (.ref 2) → sm_get lv1 1 = some (.int (nI be)) → Bod (d + 8) 252 174 lv1 [] (S) v Sf) : Bod (d + 8) 252 129 lv [] S v Sf := by
  refine Bod.ildnG dc_252_129 (by repeat (first | exact q2 | exact sm_get_p1 | exact sm_get_p2e | refine sm_get_p1m (by decide) (by decide) ?_ | refine sm_get_p1n (by decide) rfl ?_ | refine sm_get_p2n (by decide) (by decide) rfl ?_ | refine sm_get_p2m (by decide) (by decide) (by decide) ?_)) ?_
  refine Bod.aldnG dc_252_130 (by repeat (first | exact q0 | exact sm_get_p1 | exact sm_get_p2e | refine sm_get_p1m (by decide) (by decide) ?_ | refine sm_get_p1n (by decide) rfl ?_ | refine sm_get_p2n (by decide) (by decide) rfl ?_ | refine sm_get_p2m (by decide) (by decide) (by decide) ?_)) ?_
  refine Bod.get dc_252_131 fr_252_59 (mk_2 _) rfl ?_
  refine Bod.eqI (nI f215) (by first | assumption | rfl | exact congrArg nI (by omega) | (simp (disch := omega) only [rI, rIe, rA, rIA, rLA, rJA, rVI, rQI, rVA, rQA, upd_at,  rAI, rLI, rJI, nI_add, pk_sub, kc_0, kc_1, kc_2, kc_3, kc_4, kc_5, reduceIte, Nat.reduceEqDiff, Nat.add_zero, rI_hold, rI_hold, rL_hold, hf215]; done)) ?_
  refine Bod.icF dc_252_134 rfl (k2_gt_F ni f215 rfl rfl (by omega) (by omega)) ?_
  refine Bod.ildnG dc_252_137 (by repeat (first | exact q2 | exact sm_get_p1 | exact sm_get_p2e | refine sm_get_p1m (by decide) (by decide) ?_ | refine sm_get_p1n (by decide) rfl ?_ | refine sm_get_p2n (by decide) (by decide) rfl ?_ | refine sm_get_p2m (by decide) (by decide) (by decide) ?_)) ?_
  refine Bod.sip 1500 (by decide) dc_252_138 ?_
  refine Bod.icT dc_252_141 rfl (k2_gt_T ni 1500 rfl rfl (by omega) (by omega)) ?_
  exact hB _ (by repeat (first | exact q0 | exact sm_get_p1 | exact sm_get_p2e | refine sm_get_p1m (by decide) (by decide) ?_ | refine sm_get_p1n (by decide) rfl ?_ | refine sm_get_p2n (by decide) (by decide) rfl ?_ | refine sm_get_p2m (by decide) (by decide) (by decide) ?_)) (by repeat (first | exact q1 | exact sm_get_p1 | exact sm_get_p2e | refine sm_get_p1m (by decide) (by decide) ?_ | refine sm_get_p1n (by decide) rfl ?_ | refine sm_get_p2n (by decide) (by decide) rfl ?_ | refine sm_get_p2m (by decide) (by decide) (by decide) ?_))
theorem mCtE_3 {d : Nat} {S Sf : cS} {v : Option Value} {lv : sm_L} {be : Nat} {ni : Nat} {f215 : Nat} {e3 : Nat} (q0 : sm_get lv 0 = some (.ref 2)) (q1 : sm_get lv 1 = some (.int (nI be))) (q2 : sm_get lv 2 = some (.int (nI ni))) (mbe : be < 2 ^ 20) (mni : ni < 2 ^ 20) (hf215 : sI S 215 = nI f215) (mf215 : f215 < 1501) (b1 : ni ≤ f215) (b2 : ni ≤ 1500) (b3 : ni < 1501) (he3 : sA S 3 ni = nI e3) (me3 : e3 < 2 ^ 20) (b4 : e3 = 0) (hB : ∀ lv1 : sm_L, sm_get lv1 0 = some (.ref 2) → sm_get lv1 1 = some (.int (nI be)) → sm_get lv1 2 = some (.int (nI (ni + 1))) → Bod (d + 8) 252 129 lv1 [] (S) v Sf) : Bod (d + 8) 252 129 lv [] S v Sf := by
  refine Bod.ildnG dc_252_129 (by repeat (first | exact q2 | exact sm_get_p1 | exact sm_get_p2e | refine sm_get_p1m (by decide) (by decide) ?_ | refine sm_get_p1n (by decide) rfl ?_ | refine sm_get_p2n (by decide) (by decide) rfl ?_ | refine sm_get_p2m (by decide) (by decide) (by decide) ?_)) ?_
  refine Bod.aldnG dc_252_130 (by repeat (first | exact q0 | exact sm_get_p1 | exact sm_get_p2e | refine sm_get_p1m (by decide) (by decide) ?_ | refine sm_get_p1n (by decide) rfl ?_ | refine sm_get_p2n (by decide) (by decide) rfl ?_ | refine sm_get_p2m (by decide) (by decide) (by decide) ?_)) ?_
  refine Bod.get dc_252_131 fr_252_59 (mk_2 _) rfl ?_
  refine Bod.eqI (nI f215) (by first | assumption | rfl | exact congrArg nI (by omega) | (simp (disch := omega) only [rI, rIe, rA, rIA, rLA, rJA, rVI, rQI, rVA, rQA, upd_at,  rAI, rLI, rJI, nI_add, pk_sub, kc_0, kc_1, kc_2, kc_3, kc_4, kc_5, reduceIte, Nat.reduceEqDiff, Nat.add_zero, rI_hold, rI_hold, rL_hold, hf215]; done)) ?_
  refine Bod.icF dc_252_134 rfl (k2_gt_F ni f215 rfl rfl (by omega) (by omega)) ?_
  refine Bod.ildnG dc_252_137 (by repeat (first | exact q2 | exact sm_get_p1 | exact sm_get_p2e | refine sm_get_p1m (by decide) (by decide) ?_ | refine sm_get_p1n (by decide) rfl ?_ | refine sm_get_p2n (by decide) (by decide) rfl ?_ | refine sm_get_p2m (by decide) (by decide) (by decide) ?_)) ?_
  refine Bod.sip 1500 (by decide) dc_252_138 ?_
  refine Bod.icF dc_252_141 rfl (k2_gt_F ni 1500 rfl rfl (by omega) (by omega)) ?_
  refine Bod.aldnG dc_252_144 (by repeat (first | exact q0 | exact sm_get_p1 | exact sm_get_p2e | refine sm_get_p1m (by decide) (by decide) ?_ | refine sm_get_p1n (by decide) rfl ?_ | refine sm_get_p2n (by decide) (by decide) rfl ?_ | refine sm_get_p2m (by decide) (by decide) (by decide) ?_)) ?_
  refine Bod.get dc_252_145 fr_252_11 (mk_2 _) rfl ?_
  refine Bod.ildnG dc_252_148 (by repeat (first | exact q2 | exact sm_get_p1 | exact sm_get_p2e | refine sm_get_p1m (by decide) (by decide) ?_ | refine sm_get_p1n (by decide) rfl ?_ | refine sm_get_p2n (by decide) (by decide) rfl ?_ | refine sm_get_p2m (by decide) (by decide) (by decide) ?_)) ?_
  refine Bod.ialdN ni rfl (by omega) (by omega) dc_252_149 (mk_3 _) ?_
  refine Bod.eqI (nI e3) (by first | assumption | rfl | exact congrArg nI (by omega) | (simp (disch := omega) only [rI, rIe, rA, rIA, rLA, rJA, rVI, rQI, rVA, rQA, upd_at,  rAI, rLI, rJI, nI_add, pk_sub, kc_0, kc_1, kc_2, kc_3, kc_4, kc_5, reduceIte, Nat.reduceEqDiff, Nat.add_zero, rI_hold, rI_hold, rL_hold, hf215, he3]; done)) ?_
  refine Bod.ifT dc_252_150 rfl (k1_eq_T (k_eq e3 0 rfl rfl (by omega))) ?_
  refine Bod.incN (ni + 1) (by rw [kc_1, nI_add]) dc_252_168 (by rw [ml_252]; exact Nat.le_of_ble_eq_true rfl) (by repeat (first | exact q2 | exact sm_get_p1 | exact sm_get_p2e | refine sm_get_p1m (by decide) (by decide) ?_ | refine sm_get_p1n (by decide) rfl ?_ | refine sm_get_p2n (by decide) (by decide) rfl ?_ | refine sm_get_p2m (by decide) (by decide) (by decide) ?_)) ?_
  refine Bod.go dc_252_171 rfl ?_
  exact hB _ (by repeat (first | exact q0 | exact sm_get_p1 | exact sm_get_p2e | refine sm_get_p1m (by decide) (by decide) ?_ | refine sm_get_p1n (by decide) rfl ?_ | refine sm_get_p2n (by decide) (by decide) rfl ?_ | refine sm_get_p2m (by decide) (by decide) (by decide) ?_)) (by repeat (first | exact q1 | exact sm_get_p1 | exact sm_get_p2e | refine sm_get_p1m (by decide) (by decide) ?_ | refine sm_get_p1n (by decide) rfl ?_ | refine sm_get_p2n (by decide) (by decide) rfl ?_ | refine sm_get_p2m (by decide) (by decide) (by decide) ?_)) (by repeat (first | exact q0 | exact sm_get_p1 | exact sm_get_p2e | refine sm_get_p1m (by decide) (by decide) ?_ | refine sm_get_p1n (by decide) rfl ?_ | refine sm_get_p2n (by decide) (by decide) rfl ?_ | refine sm_get_p2m (by decide) (by decide) (by decide) ?_))
theorem mCtE_4 {d : Nat} {S Sf : cS} {v : Option Value} {lv : sm_L} {be : Nat} {ni : Nat} {f215 : Nat} {e3 : Nat} {e15 : Nat} (q0 : sm_get lv 0 = some (.ref 2)) (q1 : sm_get lv 1 = some (.int (nI be))) (q2 : sm_get lv 2 = some (.int (nI ni))) (mbe : be < 2 ^ 20) (mni : ni < 2 ^ 20) (hf215 : sI S 215 = nI f215) (mf215 : f215 < 1501) (b1 : ni ≤ f215) (b2 : ni ≤ 1500) (b3 : ni < 1501) (he3 : sA S 3 ni = nI e3) (me3 : e3 < 2 ^ 20) (b4 : e3 ≠ 0) (he15 : sA S 15 ni = nI e15) (me15 : e15 < 2 ^ 20) (b5 : e15 ≠ 0) (hB : ∀ lv1 : sm_L, sm_get lv1 0 = some (.ref 2) → sm_get lv1 1 = some (.int (nI be)) → sm_get lv1 2 = some (.int (nI (ni + 1))) → Bod (d + 8) 252 129 lv1 [] (S) v Sf) : Bod (d + 8) 252 129 lv [] S v Sf := by
  refine Bod.ildnG dc_252_129 (by repeat (first | exact q2 | exact sm_get_p1 | exact sm_get_p2e | refine sm_get_p1m (by decide) (by decide) ?_ | refine sm_get_p1n (by decide) rfl ?_ | refine sm_get_p2n (by decide) (by decide) rfl ?_ | refine sm_get_p2m (by decide) (by decide) (by decide) ?_)) ?_
  refine Bod.aldnG dc_252_130 (by repeat (first | exact q0 | exact sm_get_p1 | exact sm_get_p2e | refine sm_get_p1m (by decide) (by decide) ?_ | refine sm_get_p1n (by decide) rfl ?_ | refine sm_get_p2n (by decide) (by decide) rfl ?_ | refine sm_get_p2m (by decide) (by decide) (by decide) ?_)) ?_
  refine Bod.get dc_252_131 fr_252_59 (mk_2 _) rfl ?_
  refine Bod.eqI (nI f215) (by first | assumption | rfl | exact congrArg nI (by omega) | (simp (disch := omega) only [rI, rIe, rA, rIA, rLA, rJA, rVI, rQI, rVA, rQA, upd_at,  rAI, rLI, rJI, nI_add, pk_sub, kc_0, kc_1, kc_2, kc_3, kc_4, kc_5, reduceIte, Nat.reduceEqDiff, Nat.add_zero, rI_hold, rI_hold, rL_hold, hf215]; done)) ?_
  refine Bod.icF dc_252_134 rfl (k2_gt_F ni f215 rfl rfl (by omega) (by omega)) ?_
  refine Bod.ildnG dc_252_137 (by repeat (first | exact q2 | exact sm_get_p1 | exact sm_get_p2e | refine sm_get_p1m (by decide) (by decide) ?_ | refine sm_get_p1n (by decide) rfl ?_ | refine sm_get_p2n (by decide) (by decide) rfl ?_ | refine sm_get_p2m (by decide) (by decide) (by decide) ?_)) ?_
  refine Bod.sip 1500 (by decide) dc_252_138 ?_
  refine Bod.icF dc_252_141 rfl (k2_gt_F ni 1500 rfl rfl (by omega) (by omega)) ?_
  refine Bod.aldnG dc_252_144 (by repeat (first | exact q0 | exact sm_get_p1 | exact sm_get_p2e | refine sm_get_p1m (by decide) (by decide) ?_ | refine sm_get_p1n (by decide) rfl ?_ | refine sm_get_p2n (by decide) (by decide) rfl ?_ | refine sm_get_p2m (by decide) (by decide) (by decide) ?_)) ?_
  refine Bod.get dc_252_145 fr_252_11 (mk_2 _) rfl ?_
  refine Bod.ildnG dc_252_148 (by repeat (first | exact q2 | exact sm_get_p1 | exact sm_get_p2e | refine sm_get_p1m (by decide) (by decide) ?_ | refine sm_get_p1n (by decide) rfl ?_ | refine sm_get_p2n (by decide) (by decide) rfl ?_ | refine sm_get_p2m (by decide) (by decide) (by decide) ?_)) ?_
  refine Bod.ialdN ni rfl (by omega) (by omega) dc_252_149 (mk_3 _) ?_
  refine Bod.eqI (nI e3) (by first | assumption | rfl | exact congrArg nI (by omega) | (simp (disch := omega) only [rI, rIe, rA, rIA, rLA, rJA, rVI, rQI, rVA, rQA, upd_at,  rAI, rLI, rJI, nI_add, pk_sub, kc_0, kc_1, kc_2, kc_3, kc_4, kc_5, reduceIte, Nat.reduceEqDiff, Nat.add_zero, rI_hold, rI_hold, rL_hold, hf215, he3]; done)) ?_
  refine Bod.ifF dc_252_150 rfl (k1_eq_F (k_ne e3 0 rfl rfl (by omega) (by omega) (by omega))) ?_
  refine Bod.aldnG dc_252_153 (by repeat (first | exact q0 | exact sm_get_p1 | exact sm_get_p2e | refine sm_get_p1m (by decide) (by decide) ?_ | refine sm_get_p1n (by decide) rfl ?_ | refine sm_get_p2n (by decide) (by decide) rfl ?_ | refine sm_get_p2m (by decide) (by decide) (by decide) ?_)) ?_
  refine Bod.get dc_252_154 fr_252_51 (mk_2 _) rfl ?_
  refine Bod.ildnG dc_252_157 (by repeat (first | exact q2 | exact sm_get_p1 | exact sm_get_p2e | refine sm_get_p1m (by decide) (by decide) ?_ | refine sm_get_p1n (by decide) rfl ?_ | refine sm_get_p2n (by decide) (by decide) rfl ?_ | refine sm_get_p2m (by decide) (by decide) (by decide) ?_)) ?_
  refine Bod.baldN ni rfl (by omega) (by omega) dc_252_158 (mk_15 _) (Or.inr rfl) ?_
  refine Bod.eqI (nI e15) (by first | assumption | rfl | exact congrArg nI (by omega) | (simp (disch := omega) only [rI, rIe, rA, rIA, rLA, rJA, rVI, rQI, rVA, rQA, upd_at,  rAI, rLI, rJI, nI_add, pk_sub, kc_0, kc_1, kc_2, kc_3, kc_4, kc_5, reduceIte, Nat.reduceEqDiff, Nat.add_zero, rI_hold, rI_hold, rL_hold, hf215, he3, he15]; done)) ?_
  refine Bod.ifT dc_252_159 rfl (k1_ne_T (k_ne e15 0 rfl rfl (by omega) (by omega) (by omega))) ?_
  refine Bod.incN (ni + 1) (by rw [kc_1, nI_add]) dc_252_168 (by rw [ml_252]; exact Nat.le_of_ble_eq_true rfl) (by repeat (first | exact q2 | exact sm_get_p1 | exact sm_get_p2e | refine sm_get_p1m (by decide) (by decide) ?_ | refine sm_get_p1n (by decide) rfl ?_ | refine sm_get_p2n (by decide) (by decide) rfl ?_ | refine sm_get_p2m (by decide) (by decide) (by decide) ?_)) ?_
  refine Bod.go dc_252_171 rfl ?_
  exact hB _ (by repeat (first | exact q0 | exact sm_get_p1 | exact sm_get_p2e | refine sm_get_p1m (by decide) (by decide) ?_ | refine sm_get_p1n (by decide) rfl ?_ | refine sm_get_p2n (by decide) (by decide) rfl ?_ | refine sm_get_p2m (by decide) (by decide) (by decide) ?_)) (by repeat (first | exact q1 | exact sm_get_p1 | exact sm_get_p2e | refine sm_get_p1m (by decide) (by decide) ?_ | refine sm_get_p1n (by decide) rfl ?_ | refine sm_get_p2n (by decide) (by decide) rfl ?_ | refine sm_get_p2m (by decide) (by decide) (by decide) ?_)) (by repeat (first | exact q0 | exact sm_get_p1 | exact sm_get_p2e | refine sm_get_p1m (by decide) (by decide) ?_ | refine sm_get_p1n (by decide) rfl ?_ | refine sm_get_p2n (by decide) (by decide) rfl ?_ | refine sm_get_p2m (by decide) (by decide) (by decide) ?_))
theorem mCtE_5 {d : Nat} {S Sf : cS} {v : Option Value} {lv : sm_L} {be : Nat} {ni : Nat} {f215 : Nat} {e3 : Nat} {e15 : Nat} {S1 : cS} (q0 : sm_get lv 0 = some (.ref 2)) (q1 : sm_get lv 1 = some (.int (nI be))) (q2 : sm_get lv 2 = some (.int (nI ni))) (mbe : be < 2 ^ 20) (mni : ni < 2 ^ 20) (hf215 : sI S 215 = nI f215) (mf215 : f215 < 1501) (b1 : ni ≤ f215) (b2 : ni ≤ 1500) (b3 : ni < 1501) (he3 : sA S 3 ni = nI e3) (me3 : e3 < 2 ^ 20) (b4 : e3 ≠ 0) (he15 : sA S 15 ni = nI e15) (me15 : e15 < 2 ^ 20) (b5 : e15 = 0) (c1 : Ans (d + 8) 143 [.ref 2, .int (nI ni), .int (nI 2)] S none S1) (hB : ∀ lv1 : sm_L, sm_get lv1 0 = some (.ref 2) → sm_get lv1 1 = some (.int (nI be)) → sm_get lv1 2 = some (.int (nI (ni + 1))) → Bod (d + 8) 252 129 lv1 [] (S1) v Sf) : Bod (d + 8) 252 129 lv [] S v Sf := by
  refine Bod.ildnG dc_252_129 (by repeat (first | exact q2 | exact sm_get_p1 | exact sm_get_p2e | refine sm_get_p1m (by decide) (by decide) ?_ | refine sm_get_p1n (by decide) rfl ?_ | refine sm_get_p2n (by decide) (by decide) rfl ?_ | refine sm_get_p2m (by decide) (by decide) (by decide) ?_)) ?_
  refine Bod.aldnG dc_252_130 (by repeat (first | exact q0 | exact sm_get_p1 | exact sm_get_p2e | refine sm_get_p1m (by decide) (by decide) ?_ | refine sm_get_p1n (by decide) rfl ?_ | refine sm_get_p2n (by decide) (by decide) rfl ?_ | refine sm_get_p2m (by decide) (by decide) (by decide) ?_)) ?_
  refine Bod.get dc_252_131 fr_252_59 (mk_2 _) rfl ?_
  refine Bod.eqI (nI f215) (by first | assumption | rfl | exact congrArg nI (by omega) | (simp (disch := omega) only [rI, rIe, rA, rIA, rLA, rJA, rVI, rQI, rVA, rQA, upd_at,  rAI, rLI, rJI, nI_add, pk_sub, kc_0, kc_1, kc_2, kc_3, kc_4, kc_5, reduceIte, Nat.reduceEqDiff, Nat.add_zero, rI_hold, rI_hold, rL_hold, hf215]; done)) ?_
  refine Bod.icF dc_252_134 rfl (k2_gt_F ni f215 rfl rfl (by omega) (by omega)) ?_
  refine Bod.ildnG dc_252_137 (by repeat (first | exact q2 | exact sm_get_p1 | exact sm_get_p2e | refine sm_get_p1m (by decide) (by decide) ?_ | refine sm_get_p1n (by decide) rfl ?_ | refine sm_get_p2n (by decide) (by decide) rfl ?_ | refine sm_get_p2m (by decide) (by decide) (by decide) ?_)) ?_
  refine Bod.sip 1500 (by decide) dc_252_138 ?_
  refine Bod.icF dc_252_141 rfl (k2_gt_F ni 1500 rfl rfl (by omega) (by omega)) ?_
  refine Bod.aldnG dc_252_144 (by repeat (first | exact q0 | exact sm_get_p1 | exact sm_get_p2e | refine sm_get_p1m (by decide) (by decide) ?_ | refine sm_get_p1n (by decide) rfl ?_ | refine sm_get_p2n (by decide) (by decide) rfl ?_ | refine sm_get_p2m (by decide) (by decide) (by decide) ?_)) ?_
  refine Bod.get dc_252_145 fr_252_11 (mk_2 _) rfl ?_
  refine Bod.ildnG dc_252_148 (by repeat (first | exact q2 | exact sm_get_p1 | exact sm_get_p2e | refine sm_get_p1m (by decide) (by decide) ?_ | refine sm_get_p1n (by decide) rfl ?_ | refine sm_get_p2n (by decide) (by decide) rfl ?_ | refine sm_get_p2m (by decide) (by decide) (by decide) ?_)) ?_
  refine Bod.ialdN ni rfl (by omega) (by omega) dc_252_149 (mk_3 _) ?_
  refine Bod.eqI (nI e3) (by first | assumption | rfl | exact congrArg nI (by omega) | (simp (disch := omega) only [rI, rIe, rA, rIA, rLA, rJA, rVI, rQI, rVA, rQA, upd_at,  rAI, rLI, rJI, nI_add, pk_sub, kc_0, kc_1, kc_2, kc_3, kc_4, kc_5, reduceIte, Nat.reduceEqDiff, Nat.add_zero, rI_hold, rI_hold, rL_hold, hf215, he3]; done)) ?_
  refine Bod.ifF dc_252_150 rfl (k1_eq_F (k_ne e3 0 rfl rfl (by omega) (by omega) (by omega))) ?_
  refine Bod.aldnG dc_252_153 (by repeat (first | exact q0 | exact sm_get_p1 | exact sm_get_p2e | refine sm_get_p1m (by decide) (by decide) ?_ | refine sm_get_p1n (by decide) rfl ?_ | refine sm_get_p2n (by decide) (by decide) rfl ?_ | refine sm_get_p2m (by decide) (by decide) (by decide) ?_)) ?_
  refine Bod.get dc_252_154 fr_252_51 (mk_2 _) rfl ?_
  refine Bod.ildnG dc_252_157 (by repeat (first | exact q2 | exact sm_get_p1 | exact sm_get_p2e | refine sm_get_p1m (by decide) (by decide) ?_ | refine sm_get_p1n (by decide) rfl ?_ | refine sm_get_p2n (by decide) (by decide) rfl ?_ | refine sm_get_p2m (by decide) (by decide) (by decide) ?_)) ?_
  refine Bod.baldN ni rfl (by omega) (by omega) dc_252_158 (mk_15 _) (Or.inr rfl) ?_
  refine Bod.eqI (nI e15) (by first | assumption | rfl | exact congrArg nI (by omega) | (simp (disch := omega) only [rI, rIe, rA, rIA, rLA, rJA, rVI, rQI, rVA, rQA, upd_at,  rAI, rLI, rJI, nI_add, pk_sub, kc_0, kc_1, kc_2, kc_3, kc_4, kc_5, reduceIte, Nat.reduceEqDiff, Nat.add_zero, rI_hold, rI_hold, rL_hold, hf215, he3, he15]; done)) ?_
  refine Bod.ifF dc_252_159 rfl (k1_ne_F (k_eq e15 0 rfl rfl (by omega))) ?_
  refine Bod.aldnG dc_252_162 (by repeat (first | exact q0 | exact sm_get_p1 | exact sm_get_p2e | refine sm_get_p1m (by decide) (by decide) ?_ | refine sm_get_p1n (by decide) rfl ?_ | refine sm_get_p2n (by decide) (by decide) rfl ?_ | refine sm_get_p2m (by decide) (by decide) (by decide) ?_)) ?_
  refine Bod.ildnG dc_252_163 (by repeat (first | exact q2 | exact sm_get_p1 | exact sm_get_p2e | refine sm_get_p1m (by decide) (by decide) ?_ | refine sm_get_p1n (by decide) rfl ?_ | refine sm_get_p2n (by decide) (by decide) rfl ?_ | refine sm_get_p2m (by decide) (by decide) (by decide) ?_)) ?_
  refine Bod.ic 2 (by decide) dc_252_164 ?_
  refine Bod.virt (r := []) dc_252_165 kr_252_76 ⟨Or.inl rfl, ow_143, cl_2⟩ (by rw [np_143]; rfl) (by rw [np_143]; rfl) (ob_of (mk_2 _)) (Nat.le_of_ble_eq_true rfl) (c1  ) ?_
  show Bod _ _ _ _ [] _ _ _
  refine Bod.incN (ni + 1) (by rw [kc_1, nI_add]) dc_252_168 (by rw [ml_252]; exact Nat.le_of_ble_eq_true rfl) (by repeat (first | exact q2 | exact sm_get_p1 | exact sm_get_p2e | refine sm_get_p1m (by decide) (by decide) ?_ | refine sm_get_p1n (by decide) rfl ?_ | refine sm_get_p2n (by decide) (by decide) rfl ?_ | refine sm_get_p2m (by decide) (by decide) (by decide) ?_)) ?_
  refine Bod.go dc_252_171 rfl ?_
  exact hB _ (by repeat (first | exact q0 | exact sm_get_p1 | exact sm_get_p2e | refine sm_get_p1m (by decide) (by decide) ?_ | refine sm_get_p1n (by decide) rfl ?_ | refine sm_get_p2n (by decide) (by decide) rfl ?_ | refine sm_get_p2m (by decide) (by decide) (by decide) ?_)) (by repeat (first | exact q1 | exact sm_get_p1 | exact sm_get_p2e | refine sm_get_p1m (by decide) (by decide) ?_ | refine sm_get_p1n (by decide) rfl ?_ | refine sm_get_p2n (by decide) (by decide) rfl ?_ | refine sm_get_p2m (by decide) (by decide) (by decide) ?_)) (by repeat (first | exact q0 | exact sm_get_p1 | exact sm_get_p2e | refine sm_get_p1m (by decide) (by decide) ?_ | refine sm_get_p1n (by decide) rfl ?_ | refine sm_get_p2n (by decide) (by decide) rfl ?_ | refine sm_get_p2m (by decide) (by decide) (by decide) ?_))
theorem mCtF_1 {d : Nat} {S Sf : cS} {v : Option Value} {lv : sm_L} {be : Nat} (q0 : sm_get lv 0 = some (.ref 2)) (q1 : sm_get lv 1 = some (.int (nI be))) (mbe : be < 2 ^ 20) (hB : ∀ lv1 : sm_L, sm_get lv1 0 = some (.ref 2) → sm_get lv1 1 = some (.int (nI be)) → sm_get lv1 2 = some (.int (nI 1)) → Bod (d + 8) 252 176 lv1 [] (S) v Sf) : Bod (d + 8) 252 174 lv [] S v Sf := by
  refine Bod.ic 1 (by decide) dc_252_174 ?_
  refine Bod.istn dc_252_175 (by rw [ml_252]; exact Nat.le_of_ble_eq_true rfl) ?_
  exact hB _ (by repeat (first | exact q0 | exact sm_get_p1 | exact sm_get_p2e | refine sm_get_p1m (by decide) (by decide) ?_ | refine sm_get_p1n (by decide) rfl ?_ | refine sm_get_p2n (by decide) (by decide) rfl ?_ | refine sm_get_p2m (by decide) (by decide) (by decide) ?_)) (by repeat (first | exact q1 | exact sm_get_p1 | exact sm_get_p2e | refine sm_get_p1m (by decide) (by decide) ?_ | refine sm_get_p1n (by decide) rfl ?_ | refine sm_get_p2n (by decide) (by decide) rfl ?_ | refine sm_get_p2m (by decide) (by decide) (by decide) ?_)) (by repeat (first | exact q0 | exact sm_get_p1 | exact sm_get_p2e | refine sm_get_p1m (by decide) (by decide) ?_ | refine sm_get_p1n (by decide) rfl ?_ | refine sm_get_p2n (by decide) (by decide) rfl ?_ | refine sm_get_p2m (by decide) (by decide) (by decide) ?_))
theorem mCtG_1 {d : Nat} {S Sf : cS} {v : Option Value} {lv : sm_L} {be : Nat} {ni : Nat} {f215 : Nat} (q0 : sm_get lv 0 = some (.ref 2)) (q1 : sm_get lv 1 = some (.int (nI be))) (q2 : sm_get lv 2 = some (.int (nI ni))) (mbe : be < 2 ^ 20) (mni : ni < 2 ^ 20) (hf215 : sI S 215 = nI f215) (mf215 : f215 < 1501) (b1 : f215 < ni) (hB : ∀ lv1 : sm_L, sm_get lv1 0 = some (.ref 2) → sm_get lv1 1 = some (.int (nI be)) → Bod (d + 8) 252 220 lv1 [] (S) v Sf) : Bod (d + 8) 252 176 lv [] S v Sf := by
  refine Bod.ildnG dc_252_176 (by repeat (first | exact q2 | exact sm_get_p1 | exact sm_get_p2e | refine sm_get_p1m (by decide) (by decide) ?_ | refine sm_get_p1n (by decide) rfl ?_ | refine sm_get_p2n (by decide) (by decide) rfl ?_ | refine sm_get_p2m (by decide) (by decide) (by decide) ?_)) ?_
  refine Bod.aldnG dc_252_177 (by repeat (first | exact q0 | exact sm_get_p1 | exact sm_get_p2e | refine sm_get_p1m (by decide) (by decide) ?_ | refine sm_get_p1n (by decide) rfl ?_ | refine sm_get_p2n (by decide) (by decide) rfl ?_ | refine sm_get_p2m (by decide) (by decide) (by decide) ?_)) ?_
  refine Bod.get dc_252_178 fr_252_59 (mk_2 _) rfl ?_
  refine Bod.eqI (nI f215) (by first | assumption | rfl | exact congrArg nI (by omega) | (simp (disch := omega) only [rI, rIe, rA, rIA, rLA, rJA, rVI, rQI, rVA, rQA, upd_at,  rAI, rLI, rJI, nI_add, pk_sub, kc_0, kc_1, kc_2, kc_3, kc_4, kc_5, reduceIte, Nat.reduceEqDiff, Nat.add_zero, rI_hold, rI_hold, rL_hold, hf215]; done)) ?_
  refine Bod.icT dc_252_181 rfl (k2_gt_T ni f215 rfl rfl (by omega) (by omega)) ?_
  exact hB _ (by repeat (first | exact q0 | exact sm_get_p1 | exact sm_get_p2e | refine sm_get_p1m (by decide) (by decide) ?_ | refine sm_get_p1n (by decide) rfl ?_ | refine sm_get_p2n (by decide) (by decide) rfl ?_ | refine sm_get_p2m (by decide) (by decide) (by decide) ?_)) (by repeat (first | exact q1 | exact sm_get_p1 | exact sm_get_p2e | refine sm_get_p1m (by decide) (by decide) ?_ | refine sm_get_p1n (by decide) rfl ?_ | refine sm_get_p2n (by decide) (by decide) rfl ?_ | refine sm_get_p2m (by decide) (by decide) (by decide) ?_))
theorem mCtG_2 {d : Nat} {S Sf : cS} {v : Option Value} {lv : sm_L} {be : Nat} {ni : Nat} {f215 : Nat} (q0 : sm_get lv 0 = some (.ref 2)) (q1 : sm_get lv 1 = some (.int (nI be))) (q2 : sm_get lv 2 = some (.int (nI ni))) (mbe : be < 2 ^ 20) (mni : ni < 2 ^ 20) (hf215 : sI S 215 = nI f215) (mf215 : f215 < 1501) (b1 : ni ≤ f215) (b2 : 1500 < ni) (hB : ∀ lv1 : sm_L, sm_get lv1 0 = some (.ref 2) → sm_get lv1 1 = some (.int (nI be)) → Bod (d + 8) 252 220 lv1 [] (S) v Sf) : Bod (d + 8) 252 176 lv [] S v Sf := by
  refine Bod.ildnG dc_252_176 (by repeat (first | exact q2 | exact sm_get_p1 | exact sm_get_p2e | refine sm_get_p1m (by decide) (by decide) ?_ | refine sm_get_p1n (by decide) rfl ?_ | refine sm_get_p2n (by decide) (by decide) rfl ?_ | refine sm_get_p2m (by decide) (by decide) (by decide) ?_)) ?_
  refine Bod.aldnG dc_252_177 (by repeat (first | exact q0 | exact sm_get_p1 | exact sm_get_p2e | refine sm_get_p1m (by decide) (by decide) ?_ | refine sm_get_p1n (by decide) rfl ?_ | refine sm_get_p2n (by decide) (by decide) rfl ?_ | refine sm_get_p2m (by decide) (by decide) (by decide) ?_)) ?_
  refine Bod.get dc_252_178 fr_252_59 (mk_2 _) rfl ?_
  refine Bod.eqI (nI f215) (by first | assumption | rfl | exact congrArg nI (by omega) | (simp (disch := omega) only [rI, rIe, rA, rIA, rLA, rJA, rVI, rQI, rVA, rQA, upd_at,  rAI, rLI, rJI, nI_add, pk_sub, kc_0, kc_1, kc_2, kc_3, kc_4, kc_5, reduceIte, Nat.reduceEqDiff, Nat.add_zero, rI_hold, rI_hold, rL_hold, hf215]; done)) ?_
  refine Bod.icF dc_252_181 rfl (k2_gt_F ni f215 rfl rfl (by omega) (by omega)) ?_
  refine Bod.ildnG dc_252_184 (by repeat (first | exact q2 | exact sm_get_p1 | exact sm_get_p2e | refine sm_get_p1m (by decide) (by decide) ?_ | refine sm_get_p1n (by decide) rfl ?_ | refine sm_get_p2n (by decide) (by decide) rfl ?_ | refine sm_get_p2m (by decide) (by decide) (by decide) ?_)) ?_
  refine Bod.sip 1500 (by decide) dc_252_185 ?_
  refine Bod.icT dc_252_188 rfl (k2_gt_T ni 1500 rfl rfl (by omega) (by omega)) ?_
  exact hB _ (by repeat (first | exact q0 | exact sm_get_p1 | exact sm_get_p2e | refine sm_get_p1m (by decide) (by decide) ?_ | refine sm_get_p1n (by decide) rfl ?_ | refine sm_get_p2n (by decide) (by decide) rfl ?_ | refine sm_get_p2m (by decide) (by decide) (by decide) ?_)) (by repeat (first | exact q1 | exact sm_get_p1 | exact sm_get_p2e | refine sm_get_p1m (by decide) (by decide) ?_ | refine sm_get_p1n (by decide) rfl ?_ | refine sm_get_p2n (by decide) (by decide) rfl ?_ | refine sm_get_p2m (by decide) (by decide) (by decide) ?_))
theorem mCtG_3 {d : Nat} {S Sf : cS} {v : Option Value} {lv : sm_L} {be : Nat} {ni : Nat} {f215 : Nat} {e3 : Nat} (q0 : sm_get lv 0 = some (.ref 2)) (q1 : sm_get lv 1 = some (.int (nI be))) (q2 : sm_get lv 2 = some (.int (nI ni))) (mbe : be < 2 ^ 20) (mni : ni < 2 ^ 20) (hf215 : sI S 215 = nI f215) (mf215 : f215 < 1501) (b1 : ni ≤ f215) (b2 : ni ≤ 1500) (b3 : ni < 1501) (he3 : sA S 3 ni = nI e3) (me3 : e3 < 2 ^ 20) (b4 : e3 = 0) (hB : ∀ lv1 : sm_L, sm_get lv1 0 = some (.ref 2) → sm_get lv1 1 = some (.int (nI be)) → sm_get lv1 2 = some (.int (nI (ni + 1))) → Bod (d + 8) 252 176 lv1 [] (S) v Sf) : Bod (d + 8) 252 176 lv [] S v Sf := by
  refine Bod.ildnG dc_252_176 (by repeat (first | exact q2 | exact sm_get_p1 | exact sm_get_p2e | refine sm_get_p1m (by decide) (by decide) ?_ | refine sm_get_p1n (by decide) rfl ?_ | refine sm_get_p2n (by decide) (by decide) rfl ?_ | refine sm_get_p2m (by decide) (by decide) (by decide) ?_)) ?_
  refine Bod.aldnG dc_252_177 (by repeat (first | exact q0 | exact sm_get_p1 | exact sm_get_p2e | refine sm_get_p1m (by decide) (by decide) ?_ | refine sm_get_p1n (by decide) rfl ?_ | refine sm_get_p2n (by decide) (by decide) rfl ?_ | refine sm_get_p2m (by decide) (by decide) (by decide) ?_)) ?_
  refine Bod.get dc_252_178 fr_252_59 (mk_2 _) rfl ?_
  refine Bod.eqI (nI f215) (by first | assumption | rfl | exact congrArg nI (by omega) | (simp (disch := omega) only [rI, rIe, rA, rIA, rLA, rJA, rVI, rQI, rVA, rQA, upd_at,  rAI, rLI, rJI, nI_add, pk_sub, kc_0, kc_1, kc_2, kc_3, kc_4, kc_5, reduceIte, Nat.reduceEqDiff, Nat.add_zero, rI_hold, rI_hold, rL_hold, hf215]; done)) ?_
  refine Bod.icF dc_252_181 rfl (k2_gt_F ni f215 rfl rfl (by omega) (by omega)) ?_
  refine Bod.ildnG dc_252_184 (by repeat (first | exact q2 | exact sm_get_p1 | exact sm_get_p2e | refine sm_get_p1m (by decide) (by decide) ?_ | refine sm_get_p1n (by decide) rfl ?_ | refine sm_get_p2n (by decide) (by decide) rfl ?_ | refine sm_get_p2m (by decide) (by decide) (by decide) ?_)) ?_
  refine Bod.sip 1500 (by decide) dc_252_185 ?_
  refine Bod.icF dc_252_188 rfl (k2_gt_F ni 1500 rfl rfl (by omega) (by omega)) ?_
  refine Bod.aldnG dc_252_191 (by repeat (first | exact q0 | exact sm_get_p1 | exact sm_get_p2e | refine sm_get_p1m (by decide) (by decide) ?_ | refine sm_get_p1n (by decide) rfl ?_ | refine sm_get_p2n (by decide) (by decide) rfl ?_ | refine sm_get_p2m (by decide) (by decide) (by decide) ?_)) ?_
  refine Bod.get dc_252_192 fr_252_11 (mk_2 _) rfl ?_
  refine Bod.ildnG dc_252_195 (by repeat (first | exact q2 | exact sm_get_p1 | exact sm_get_p2e | refine sm_get_p1m (by decide) (by decide) ?_ | refine sm_get_p1n (by decide) rfl ?_ | refine sm_get_p2n (by decide) (by decide) rfl ?_ | refine sm_get_p2m (by decide) (by decide) (by decide) ?_)) ?_
  refine Bod.ialdN ni rfl (by omega) (by omega) dc_252_196 (mk_3 _) ?_
  refine Bod.eqI (nI e3) (by first | assumption | rfl | exact congrArg nI (by omega) | (simp (disch := omega) only [rI, rIe, rA, rIA, rLA, rJA, rVI, rQI, rVA, rQA, upd_at,  rAI, rLI, rJI, nI_add, pk_sub, kc_0, kc_1, kc_2, kc_3, kc_4, kc_5, reduceIte, Nat.reduceEqDiff, Nat.add_zero, rI_hold, rI_hold, rL_hold, hf215, he3]; done)) ?_
  refine Bod.ifT dc_252_197 rfl (k1_eq_T (k_eq e3 0 rfl rfl (by omega))) ?_
  refine Bod.incN (ni + 1) (by rw [kc_1, nI_add]) dc_252_214 (by rw [ml_252]; exact Nat.le_of_ble_eq_true rfl) (by repeat (first | exact q2 | exact sm_get_p1 | exact sm_get_p2e | refine sm_get_p1m (by decide) (by decide) ?_ | refine sm_get_p1n (by decide) rfl ?_ | refine sm_get_p2n (by decide) (by decide) rfl ?_ | refine sm_get_p2m (by decide) (by decide) (by decide) ?_)) ?_
  refine Bod.go dc_252_217 rfl ?_
  exact hB _ (by repeat (first | exact q0 | exact sm_get_p1 | exact sm_get_p2e | refine sm_get_p1m (by decide) (by decide) ?_ | refine sm_get_p1n (by decide) rfl ?_ | refine sm_get_p2n (by decide) (by decide) rfl ?_ | refine sm_get_p2m (by decide) (by decide) (by decide) ?_)) (by repeat (first | exact q1 | exact sm_get_p1 | exact sm_get_p2e | refine sm_get_p1m (by decide) (by decide) ?_ | refine sm_get_p1n (by decide) rfl ?_ | refine sm_get_p2n (by decide) (by decide) rfl ?_ | refine sm_get_p2m (by decide) (by decide) (by decide) ?_)) (by repeat (first | exact q0 | exact sm_get_p1 | exact sm_get_p2e | refine sm_get_p1m (by decide) (by decide) ?_ | refine sm_get_p1n (by decide) rfl ?_ | refine sm_get_p2n (by decide) (by decide) rfl ?_ | refine sm_get_p2m (by decide) (by decide) (by decide) ?_))
theorem mCtG_4 {d : Nat} {S Sf : cS} {v : Option Value} {lv : sm_L} {be : Nat} {ni : Nat} {f215 : Nat} {e3 : Nat} {e15 : Nat} (q0 : sm_get lv 0 = some (.ref 2)) (q1 : sm_get lv 1 = some (.int (nI be))) (q2 : sm_get lv 2 = some (.int (nI ni))) (mbe : be < 2 ^ 20) (mni : ni < 2 ^ 20) (hf215 : sI S 215 = nI f215) (mf215 : f215 < 1501) (b1 : ni ≤ f215) (b2 : ni ≤ 1500) (b3 : ni < 1501) (he3 : sA S 3 ni = nI e3) (me3 : e3 < 2 ^ 20) (b4 : e3 ≠ 0) (he15 : sA S 15 ni = nI e15) (me15 : e15 < 2 ^ 20) (b5 : e15 ≠ 0) (hB : ∀ lv1 : sm_L, sm_get lv1 0 = some (.ref 2) → sm_get lv1 1 = some (.int (nI be)) → sm_get lv1 2 = some (.int (nI (ni + 1))) → Bod (d + 8) 252 176 lv1 [] (S) v Sf) : Bod (d + 8) 252 176 lv [] S v Sf := by
  refine Bod.ildnG dc_252_176 (by repeat (first | exact q2 | exact sm_get_p1 | exact sm_get_p2e | refine sm_get_p1m (by decide) (by decide) ?_ | refine sm_get_p1n (by decide) rfl ?_ | refine sm_get_p2n (by decide) (by decide) rfl ?_ | refine sm_get_p2m (by decide) (by decide) (by decide) ?_)) ?_
  refine Bod.aldnG dc_252_177 (by repeat (first | exact q0 | exact sm_get_p1 | exact sm_get_p2e | refine sm_get_p1m (by decide) (by decide) ?_ | refine sm_get_p1n (by decide) rfl ?_ | refine sm_get_p2n (by decide) (by decide) rfl ?_ | refine sm_get_p2m (by decide) (by decide) (by decide) ?_)) ?_
  refine Bod.get dc_252_178 fr_252_59 (mk_2 _) rfl ?_
  refine Bod.eqI (nI f215) (by first | assumption | rfl | exact congrArg nI (by omega) | (simp (disch := omega) only [rI, rIe, rA, rIA, rLA, rJA, rVI, rQI, rVA, rQA, upd_at,  rAI, rLI, rJI, nI_add, pk_sub, kc_0, kc_1, kc_2, kc_3, kc_4, kc_5, reduceIte, Nat.reduceEqDiff, Nat.add_zero, rI_hold, rI_hold, rL_hold, hf215]; done)) ?_
  refine Bod.icF dc_252_181 rfl (k2_gt_F ni f215 rfl rfl (by omega) (by omega)) ?_
  refine Bod.ildnG dc_252_184 (by repeat (first | exact q2 | exact sm_get_p1 | exact sm_get_p2e | refine sm_get_p1m (by decide) (by decide) ?_ | refine sm_get_p1n (by decide) rfl ?_ | refine sm_get_p2n (by decide) (by decide) rfl ?_ | refine sm_get_p2m (by decide) (by decide) (by decide) ?_)) ?_
  refine Bod.sip 1500 (by decide) dc_252_185 ?_
  refine Bod.icF dc_252_188 rfl (k2_gt_F ni 1500 rfl rfl (by omega) (by omega)) ?_
  refine Bod.aldnG dc_252_191 (by repeat (first | exact q0 | exact sm_get_p1 | exact sm_get_p2e | refine sm_get_p1m (by decide) (by decide) ?_ | refine sm_get_p1n (by decide) rfl ?_ | refine sm_get_p2n (by decide) (by decide) rfl ?_ | refine sm_get_p2m (by decide) (by decide) (by decide) ?_)) ?_
  refine Bod.get dc_252_192 fr_252_11 (mk_2 _) rfl ?_
  refine Bod.ildnG dc_252_195 (by repeat (first | exact q2 | exact sm_get_p1 | exact sm_get_p2e | refine sm_get_p1m (by decide) (by decide) ?_ | refine sm_get_p1n (by decide) rfl ?_ | refine sm_get_p2n (by decide) (by decide) rfl ?_ | refine sm_get_p2m (by decide) (by decide) (by decide) ?_)) ?_
  refine Bod.ialdN ni rfl (by omega) (by omega) dc_252_196 (mk_3 _) ?_
  refine Bod.eqI (nI e3) (by first | assumption | rfl | exact congrArg nI (by omega) | (simp (disch := omega) only [rI, rIe, rA, rIA, rLA, rJA, rVI, rQI, rVA, rQA, upd_at,  rAI, rLI, rJI, nI_add, pk_sub, kc_0, kc_1, kc_2, kc_3, kc_4, kc_5, reduceIte, Nat.reduceEqDiff, Nat.add_zero, rI_hold, rI_hold, rL_hold, hf215, he3]; done)) ?_
  refine Bod.ifF dc_252_197 rfl (k1_eq_F (k_ne e3 0 rfl rfl (by omega) (by omega) (by omega))) ?_
  refine Bod.aldnG dc_252_200 (by repeat (first | exact q0 | exact sm_get_p1 | exact sm_get_p2e | refine sm_get_p1m (by decide) (by decide) ?_ | refine sm_get_p1n (by decide) rfl ?_ | refine sm_get_p2n (by decide) (by decide) rfl ?_ | refine sm_get_p2m (by decide) (by decide) (by decide) ?_)) ?_
  refine Bod.get dc_252_201 fr_252_51 (mk_2 _) rfl ?_
  refine Bod.ildnG dc_252_204 (by repeat (first | exact q2 | exact sm_get_p1 | exact sm_get_p2e | refine sm_get_p1m (by decide) (by decide) ?_ | refine sm_get_p1n (by decide) rfl ?_ | refine sm_get_p2n (by decide) (by decide) rfl ?_ | refine sm_get_p2m (by decide) (by decide) (by decide) ?_)) ?_
  refine Bod.baldN ni rfl (by omega) (by omega) dc_252_205 (mk_15 _) (Or.inr rfl) ?_
  refine Bod.eqI (nI e15) (by first | assumption | rfl | exact congrArg nI (by omega) | (simp (disch := omega) only [rI, rIe, rA, rIA, rLA, rJA, rVI, rQI, rVA, rQA, upd_at,  rAI, rLI, rJI, nI_add, pk_sub, kc_0, kc_1, kc_2, kc_3, kc_4, kc_5, reduceIte, Nat.reduceEqDiff, Nat.add_zero, rI_hold, rI_hold, rL_hold, hf215, he3, he15]; done)) ?_
  refine Bod.ifT dc_252_206 rfl (k1_ne_T (k_ne e15 0 rfl rfl (by omega) (by omega) (by omega))) ?_
  refine Bod.incN (ni + 1) (by rw [kc_1, nI_add]) dc_252_214 (by rw [ml_252]; exact Nat.le_of_ble_eq_true rfl) (by repeat (first | exact q2 | exact sm_get_p1 | exact sm_get_p2e | refine sm_get_p1m (by decide) (by decide) ?_ | refine sm_get_p1n (by decide) rfl ?_ | refine sm_get_p2n (by decide) (by decide) rfl ?_ | refine sm_get_p2m (by decide) (by decide) (by decide) ?_)) ?_
  refine Bod.go dc_252_217 rfl ?_
  exact hB _ (by repeat (first | exact q0 | exact sm_get_p1 | exact sm_get_p2e | refine sm_get_p1m (by decide) (by decide) ?_ | refine sm_get_p1n (by decide) rfl ?_ | refine sm_get_p2n (by decide) (by decide) rfl ?_ | refine sm_get_p2m (by decide) (by decide) (by decide) ?_)) (by repeat (first | exact q1 | exact sm_get_p1 | exact sm_get_p2e | refine sm_get_p1m (by decide) (by decide) ?_ | refine sm_get_p1n (by decide) rfl ?_ | refine sm_get_p2n (by decide) (by decide) rfl ?_ | refine sm_get_p2m (by decide) (by decide) (by decide) ?_)) (by repeat (first | exact q0 | exact sm_get_p1 | exact sm_get_p2e | refine sm_get_p1m (by decide) (by decide) ?_ | refine sm_get_p1n (by decide) rfl ?_ | refine sm_get_p2n (by decide) (by decide) rfl ?_ | refine sm_get_p2m (by decide) (by decide) (by decide) ?_))
theorem mCtG_5 {d : Nat} {S Sf : cS} {v : Option Value} {lv : sm_L} {be : Nat} {ni : Nat} {f215 : Nat} {e3 : Nat} {e15 : Nat} {S1 : cS} (q0 : sm_get lv 0 = some (.ref 2)) (q1 : sm_get lv 1 = some (.int (nI be))) (q2 : sm_get lv 2 = some (.int (nI ni))) (mbe : be < 2 ^ 20) (mni : ni < 2 ^ 20) (hf215 : sI S 215 = nI f215) (mf215 : f215 < 1501) (b1 : ni ≤ f215) (b2 : ni ≤ 1500) (b3 : ni < 1501) (he3 : sA S 3 ni = nI e3) (me3 : e3 < 2 ^ 20) (b4 : e3 ≠ 0) (he15 : sA S 15 ni = nI e15) (me15 : e15 < 2 ^ 20) (b5 : e15 = 0) (c1 : Ans (d + 8) 146 [.ref 2, .int (nI ni)] S none S1) (hB : ∀ lv1 : sm_L, sm_get lv1 0 = some (.ref 2) → sm_get lv1 1 = some (.int (nI be)) → sm_get lv1 2 = some (.int (nI (ni + 1))) → Bod (d + 8) 252 176 lv1 [] (S1) v Sf) : Bod (d + 8) 252 176 lv [] S v Sf := by
  refine Bod.ildnG dc_252_176 (by repeat (first | exact q2 | exact sm_get_p1 | exact sm_get_p2e | refine sm_get_p1m (by decide) (by decide) ?_ | refine sm_get_p1n (by decide) rfl ?_ | refine sm_get_p2n (by decide) (by decide) rfl ?_ | refine sm_get_p2m (by decide) (by decide) (by decide) ?_)) ?_
  refine Bod.aldnG dc_252_177 (by repeat (first | exact q0 | exact sm_get_p1 | exact sm_get_p2e | refine sm_get_p1m (by decide) (by decide) ?_ | refine sm_get_p1n (by decide) rfl ?_ | refine sm_get_p2n (by decide) (by decide) rfl ?_ | refine sm_get_p2m (by decide) (by decide) (by decide) ?_)) ?_
  refine Bod.get dc_252_178 fr_252_59 (mk_2 _) rfl ?_
  refine Bod.eqI (nI f215) (by first | assumption | rfl | exact congrArg nI (by omega) | (simp (disch := omega) only [rI, rIe, rA, rIA, rLA, rJA, rVI, rQI, rVA, rQA, upd_at,  rAI, rLI, rJI, nI_add, pk_sub, kc_0, kc_1, kc_2, kc_3, kc_4, kc_5, reduceIte, Nat.reduceEqDiff, Nat.add_zero, rI_hold, rI_hold, rL_hold, hf215]; done)) ?_
  refine Bod.icF dc_252_181 rfl (k2_gt_F ni f215 rfl rfl (by omega) (by omega)) ?_
  refine Bod.ildnG dc_252_184 (by repeat (first | exact q2 | exact sm_get_p1 | exact sm_get_p2e | refine sm_get_p1m (by decide) (by decide) ?_ | refine sm_get_p1n (by decide) rfl ?_ | refine sm_get_p2n (by decide) (by decide) rfl ?_ | refine sm_get_p2m (by decide) (by decide) (by decide) ?_)) ?_
  refine Bod.sip 1500 (by decide) dc_252_185 ?_
  refine Bod.icF dc_252_188 rfl (k2_gt_F ni 1500 rfl rfl (by omega) (by omega)) ?_
  refine Bod.aldnG dc_252_191 (by repeat (first | exact q0 | exact sm_get_p1 | exact sm_get_p2e | refine sm_get_p1m (by decide) (by decide) ?_ | refine sm_get_p1n (by decide) rfl ?_ | refine sm_get_p2n (by decide) (by decide) rfl ?_ | refine sm_get_p2m (by decide) (by decide) (by decide) ?_)) ?_
  refine Bod.get dc_252_192 fr_252_11 (mk_2 _) rfl ?_
  refine Bod.ildnG dc_252_195 (by repeat (first | exact q2 | exact sm_get_p1 | exact sm_get_p2e | refine sm_get_p1m (by decide) (by decide) ?_ | refine sm_get_p1n (by decide) rfl ?_ | refine sm_get_p2n (by decide) (by decide) rfl ?_ | refine sm_get_p2m (by decide) (by decide) (by decide) ?_)) ?_
  refine Bod.ialdN ni rfl (by omega) (by omega) dc_252_196 (mk_3 _) ?_
  refine Bod.eqI (nI e3) (by first | assumption | rfl | exact congrArg nI (by omega) | (simp (disch := omega) only [rI, rIe, rA, rIA, rLA, rJA, rVI, rQI, rVA, rQA, upd_at,  rAI, rLI, rJI, nI_add, pk_sub, kc_0, kc_1, kc_2, kc_3, kc_4, kc_5, reduceIte, Nat.reduceEqDiff, Nat.add_zero, rI_hold, rI_hold, rL_hold, hf215, he3]; done)) ?_
  refine Bod.ifF dc_252_197 rfl (k1_eq_F (k_ne e3 0 rfl rfl (by omega) (by omega) (by omega))) ?_
  refine Bod.aldnG dc_252_200 (by repeat (first | exact q0 | exact sm_get_p1 | exact sm_get_p2e | refine sm_get_p1m (by decide) (by decide) ?_ | refine sm_get_p1n (by decide) rfl ?_ | refine sm_get_p2n (by decide) (by decide) rfl ?_ | refine sm_get_p2m (by decide) (by decide) (by decide) ?_)) ?_
  refine Bod.get dc_252_201 fr_252_51 (mk_2 _) rfl ?_
  refine Bod.ildnG dc_252_204 (by repeat (first | exact q2 | exact sm_get_p1 | exact sm_get_p2e | refine sm_get_p1m (by decide) (by decide) ?_ | refine sm_get_p1n (by decide) rfl ?_ | refine sm_get_p2n (by decide) (by decide) rfl ?_ | refine sm_get_p2m (by decide) (by decide) (by decide) ?_)) ?_
  refine Bod.baldN ni rfl (by omega) (by omega) dc_252_205 (mk_15 _) (Or.inr rfl) ?_
  refine Bod.eqI (nI e15) (by first | assumption | rfl | exact congrArg nI (by omega) | (simp (disch := omega) only [rI, rIe, rA, rIA, rLA, rJA, rVI, rQI, rVA, rQA, upd_at,  rAI, rLI, rJI, nI_add, pk_sub, kc_0, kc_1, kc_2, kc_3, kc_4, kc_5, reduceIte, Nat.reduceEqDiff, Nat.add_zero, rI_hold, rI_hold, rL_hold, hf215, he3, he15]; done)) ?_
  refine Bod.ifF dc_252_206 rfl (k1_ne_F (k_eq e15 0 rfl rfl (by omega))) ?_
  refine Bod.aldnG dc_252_209 (by repeat (first | exact q0 | exact sm_get_p1 | exact sm_get_p2e | refine sm_get_p1m (by decide) (by decide) ?_ | refine sm_get_p1n (by decide) rfl ?_ | refine sm_get_p2n (by decide) (by decide) rfl ?_ | refine sm_get_p2m (by decide) (by decide) (by decide) ?_)) ?_
  refine Bod.ildnG dc_252_210 (by repeat (first | exact q2 | exact sm_get_p1 | exact sm_get_p2e | refine sm_get_p1m (by decide) (by decide) ?_ | refine sm_get_p1n (by decide) rfl ?_ | refine sm_get_p2n (by decide) (by decide) rfl ?_ | refine sm_get_p2m (by decide) (by decide) (by decide) ?_)) ?_
  refine Bod.virt (r := []) dc_252_211 kr_252_80 ⟨Or.inl rfl, ow_146, cl_2⟩ (by rw [np_146]; rfl) (by rw [np_146]; rfl) (ob_of (mk_2 _)) (Nat.le_of_ble_eq_true rfl) (c1  ) ?_
  show Bod _ _ _ _ [] _ _ _
  refine Bod.incN (ni + 1) (by rw [kc_1, nI_add]) dc_252_214 (by rw [ml_252]; exact Nat.le_of_ble_eq_true rfl) (by repeat (first | exact q2 | exact sm_get_p1 | exact sm_get_p2e | refine sm_get_p1m (by decide) (by decide) ?_ | refine sm_get_p1n (by decide) rfl ?_ | refine sm_get_p2n (by decide) (by decide) rfl ?_ | refine sm_get_p2m (by decide) (by decide) (by decide) ?_)) ?_
  refine Bod.go dc_252_217 rfl ?_
  exact hB _ (by repeat (first | exact q0 | exact sm_get_p1 | exact sm_get_p2e | refine sm_get_p1m (by decide) (by decide) ?_ | refine sm_get_p1n (by decide) rfl ?_ | refine sm_get_p2n (by decide) (by decide) rfl ?_ | refine sm_get_p2m (by decide) (by decide) (by decide) ?_)) (by repeat (first | exact q1 | exact sm_get_p1 | exact sm_get_p2e | refine sm_get_p1m (by decide) (by decide) ?_ | refine sm_get_p1n (by decide) rfl ?_ | refine sm_get_p2n (by decide) (by decide) rfl ?_ | refine sm_get_p2m (by decide) (by decide) (by decide) ?_)) (by repeat (first | exact q0 | exact sm_get_p1 | exact sm_get_p2e | refine sm_get_p1m (by decide) (by decide) ?_ | refine sm_get_p1n (by decide) rfl ?_ | refine sm_get_p2n (by decide) (by decide) rfl ?_ | refine sm_get_p2m (by decide) (by decide) (by decide) ?_))
theorem mCtH_1 {d : Nat} {S : cS} {lv : sm_L} {be : Nat} {al : Nat} (q0 : sm_get lv 0 = some (.ref 2)) (q1 : sm_get lv 1 = some (.int (nI be))) (mbe : be < 2 ^ 20) (hal : sI S 213 = nI al) (mal : al < 2 ^ 20) (b1 : al ≤ be) : Bod (d + 8) 252 220 lv [] S (some (.int (nI (be - al)))) (S) := by
  refine Bod.ildnG dc_252_220 (by repeat (first | exact q1 | exact sm_get_p1 | exact sm_get_p2e | refine sm_get_p1m (by decide) (by decide) ?_ | refine sm_get_p1n (by decide) rfl ?_ | refine sm_get_p2n (by decide) (by decide) rfl ?_ | refine sm_get_p2m (by decide) (by decide) (by decide) ?_)) ?_
  refine Bod.aldnG dc_252_221 (by repeat (first | exact q0 | exact sm_get_p1 | exact sm_get_p2e | refine sm_get_p1m (by decide) (by decide) ?_ | refine sm_get_p1n (by decide) rfl ?_ | refine sm_get_p2n (by decide) (by decide) rfl ?_ | refine sm_get_p2m (by decide) (by decide) (by decide) ?_)) ?_
  refine Bod.get dc_252_222 fr_252_55 (mk_2 _) rfl ?_
  refine Bod.eqI (nI al) (by first | assumption | rfl | exact congrArg nI (by omega) | (simp (disch := omega) only [rI, rIe, rA, rIA, rLA, rJA, rVI, rQI, rVA, rQA, upd_at,  rAI, rLI, rJI, nI_add, pk_sub, kc_0, kc_1, kc_2, kc_3, kc_4, kc_5, reduceIte, Nat.reduceEqDiff, Nat.add_zero, rI_hold, rI_hold, rL_hold, hal]; done)) ?_
  refine Bod.subN (be - al) (by omega) (by omega) dc_252_225 ?_
  exact Bod.retI dc_252_226 rt_252
