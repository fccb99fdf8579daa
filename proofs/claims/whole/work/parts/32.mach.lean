/-! THE MACHINE: leaves -/
theorem dc_127_0 : decode (sm_cc 127) 0 = .ok (.aload_n 0, 1) := by decide +kernel
theorem dc_127_1 : decode (sm_cc 127) 1 = .ok (.getfield 11, 3) := by decide +kernel
theorem fr_127_11 : sm_at mt_f (sm_ow 127) 11 = some (11, 4, 0, 0, 836) := by decide +kernel
theorem dc_127_4 : decode (sm_cc 127) 4 = .ok (.aload_n 0, 1) := by decide +kernel
theorem dc_127_5 : decode (sm_cc 127) 5 = .ok (.getfield 69, 3) := by decide +kernel
theorem fr_127_69 : sm_at mt_f (sm_ow 127) 69 = some (69, 4, 16, 0, 852) := by decide +kernel
theorem dc_127_8 : decode (sm_cc 127) 8 = .ok (.invokevirtual 130, 3) := by decide +kernel
theorem ow_88 : 7 = sm_ow 88 := by decide +kernel
theorem kr_127_130 : sm_at mt_k (sm_ow 127) 130 = some (130, 1, 88, 1, 1347) := by decide +kernel
theorem np_88 : sm_np 88 = 1 := by decide +kernel
theorem dc_127_11 : decode (sm_cc 127) 11 = .ok (.istore_n 1, 1) := by decide +kernel
theorem ml_127 : sm_ml 127 = 2 := by decide +kernel
theorem dc_127_12 : decode (sm_cc 127) 12 = .ok (.aload_n 0, 1) := by decide +kernel
theorem dc_127_13 : decode (sm_cc 127) 13 = .ok (.dup, 1) := by decide +kernel
theorem dc_127_14 : decode (sm_cc 127) 14 = .ok (.getfield 69, 3) := by decide +kernel
theorem dc_127_17 : decode (sm_cc 127) 17 = .ok (.iconst 1, 1) := by decide +kernel
theorem dc_127_18 : decode (sm_cc 127) 18 = .ok (.iadd, 1) := by decide +kernel
theorem dc_127_19 : decode (sm_cc 127) 19 = .ok (.putfield 69, 3) := by decide +kernel
theorem dc_127_22 : decode (sm_cc 127) 22 = .ok (.iload_n 1, 1) := by decide +kernel
theorem dc_127_23 : decode (sm_cc 127) 23 = .ok (.ireturn, 1) := by decide +kernel
theorem rt_127 : sm_rt 127 = some .int := by decide +kernel
theorem dc_129_0 : decode (sm_cc 129) 0 = .ok (.aload_n 0, 1) := by decide +kernel
theorem dc_129_1 : decode (sm_cc 129) 1 = .ok (.iload_n 1, 1) := by decide +kernel
theorem dc_129_2 : decode (sm_cc 129) 2 = .ok (.putfield 66, 3) := by decide +kernel
theorem fr_129_66 : sm_at mt_f (sm_ow 129) 66 = some (66, 4, 17, 0, 853) := by decide +kernel
theorem dc_129_5 : decode (sm_cc 129) 5 = .ok (.aload_n 0, 1) := by decide +kernel
theorem dc_129_6 : decode (sm_cc 129) 6 = .ok (.getfield 62, 3) := by decide +kernel
theorem fr_129_62 : sm_at mt_f (sm_ow 129) 62 = some (62, 4, 18, 0, 854) := by decide +kernel
theorem dc_129_9 : decode (sm_cc 129) 9 = .ok (.aload_n 0, 1) := by decide +kernel
theorem dc_129_10 : decode (sm_cc 129) 10 = .ok (.getfield 72, 3) := by decide +kernel
theorem fr_129_72 : sm_at mt_f (sm_ow 129) 72 = some (72, 4, 19, 0, 855) := by decide +kernel
theorem dc_129_13 : decode (sm_cc 129) 13 = .ok (.if_icmp .lt (6), 3) := by decide +kernel
theorem dc_129_19 : decode (sm_cc 129) 19 = .ok (.aload_n 0, 1) := by decide +kernel
theorem dc_129_20 : decode (sm_cc 129) 20 = .ok (.dup, 1) := by decide +kernel
theorem dc_129_21 : decode (sm_cc 129) 21 = .ok (.getfield 62, 3) := by decide +kernel
theorem dc_129_24 : decode (sm_cc 129) 24 = .ok (.iconst 1, 1) := by decide +kernel
theorem dc_129_25 : decode (sm_cc 129) 25 = .ok (.iadd, 1) := by decide +kernel
theorem dc_129_26 : decode (sm_cc 129) 26 = .ok (.putfield 62, 3) := by decide +kernel
theorem dc_129_29 : decode (sm_cc 129) 29 = .ok (.iconst 0, 1) := by decide +kernel
theorem dc_129_30 : decode (sm_cc 129) 30 = .ok (.ireturn, 1) := by decide +kernel
theorem rt_129 : sm_rt 129 = some .int := by decide +kernel
theorem ml_129 : sm_ml 129 = 2 := by decide +kernel
theorem dc_129_16 : decode (sm_cc 129) 16 = .ok (.bipush (100), 2) := by decide +kernel
theorem dc_129_18 : decode (sm_cc 129) 18 = .ok (.ireturn, 1) := by decide +kernel
theorem dc_159_0 : decode (sm_cc 159) 0 = .ok (.aload_n 0, 1) := by decide +kernel
theorem dc_159_1 : decode (sm_cc 159) 1 = .ok (.getfield 75, 3) := by decide +kernel
theorem fr_159_75 : sm_at mt_f (sm_ow 159) 75 = some (75, 4, 14, 0, 850) := by decide +kernel
theorem dc_159_4 : decode (sm_cc 159) 4 = .ok (.ifCond .lt (13), 3) := by decide +kernel
theorem dc_159_7 : decode (sm_cc 159) 7 = .ok (.aload_n 0, 1) := by decide +kernel
theorem dc_159_8 : decode (sm_cc 159) 8 = .ok (.getfield 75, 3) := by decide +kernel
theorem dc_159_11 : decode (sm_cc 159) 11 = .ok (.sipush (341), 3) := by decide +kernel
theorem dc_159_14 : decode (sm_cc 159) 14 = .ok (.if_icmp .lt (6), 3) := by decide +kernel
theorem dc_159_20 : decode (sm_cc 159) 20 = .ok (.aload_n 0, 1) := by decide +kernel
theorem dc_159_21 : decode (sm_cc 159) 21 = .ok (.getfield 59, 3) := by decide +kernel
theorem fr_159_59 : sm_at mt_f (sm_ow 159) 59 = some (59, 4, 12, 0, 848) := by decide +kernel
theorem dc_159_24 : decode (sm_cc 159) 24 = .ok (.iconst 3, 1) := by decide +kernel
theorem dc_159_25 : decode (sm_cc 159) 25 = .ok (.aload_n 0, 1) := by decide +kernel
theorem dc_159_26 : decode (sm_cc 159) 26 = .ok (.getfield 75, 3) := by decide +kernel
theorem dc_159_29 : decode (sm_cc 159) 29 = .ok (.imul, 1) := by decide +kernel
theorem dc_159_30 : decode (sm_cc 159) 30 = .ok (.iload_n 1, 1) := by decide +kernel
theorem dc_159_31 : decode (sm_cc 159) 31 = .ok (.iastore, 1) := by decide +kernel
theorem dc_159_32 : decode (sm_cc 159) 32 = .ok (.aload_n 0, 1) := by decide +kernel
theorem dc_159_33 : decode (sm_cc 159) 33 = .ok (.getfield 59, 3) := by decide +kernel
theorem dc_159_36 : decode (sm_cc 159) 36 = .ok (.iconst 3, 1) := by decide +kernel
theorem dc_159_37 : decode (sm_cc 159) 37 = .ok (.aload_n 0, 1) := by decide +kernel
theorem dc_159_38 : decode (sm_cc 159) 38 = .ok (.getfield 75, 3) := by decide +kernel
theorem dc_159_41 : decode (sm_cc 159) 41 = .ok (.imul, 1) := by decide +kernel
theorem dc_159_42 : decode (sm_cc 159) 42 = .ok (.iconst 1, 1) := by decide +kernel
theorem dc_159_43 : decode (sm_cc 159) 43 = .ok (.iadd, 1) := by decide +kernel
theorem dc_159_44 : decode (sm_cc 159) 44 = .ok (.aload_n 0, 1) := by decide +kernel
theorem dc_159_45 : decode (sm_cc 159) 45 = .ok (.getfield 23, 3) := by decide +kernel
theorem fr_159_23 : sm_at mt_f (sm_ow 159) 23 = some (23, 4, 3, 0, 839) := by decide +kernel
theorem dc_159_48 : decode (sm_cc 159) 48 = .ok (.getfield 122, 3) := by decide +kernel
theorem fr_159_122 : sm_at mt_f (sm_ow 159) 122 = some (122, 9, 3, 1, 773) := by decide +kernel
theorem dc_159_51 : decode (sm_cc 159) 51 = .ok (.iastore, 1) := by decide +kernel
theorem dc_159_52 : decode (sm_cc 159) 52 = .ok (.aload_n 0, 1) := by decide +kernel
theorem dc_159_53 : decode (sm_cc 159) 53 = .ok (.getfield 59, 3) := by decide +kernel
theorem dc_159_56 : decode (sm_cc 159) 56 = .ok (.iconst 3, 1) := by decide +kernel
theorem dc_159_57 : decode (sm_cc 159) 57 = .ok (.aload_n 0, 1) := by decide +kernel
theorem dc_159_58 : decode (sm_cc 159) 58 = .ok (.getfield 75, 3) := by decide +kernel
theorem dc_159_61 : decode (sm_cc 159) 61 = .ok (.imul, 1) := by decide +kernel
theorem dc_159_62 : decode (sm_cc 159) 62 = .ok (.iconst 2, 1) := by decide +kernel
theorem dc_159_63 : decode (sm_cc 159) 63 = .ok (.iadd, 1) := by decide +kernel
theorem dc_159_64 : decode (sm_cc 159) 64 = .ok (.aload_n 0, 1) := by decide +kernel
theorem dc_159_65 : decode (sm_cc 159) 65 = .ok (.getfield 150, 3) := by decide +kernel
theorem fr_159_150 : sm_at mt_f (sm_ow 159) 150 = some (150, 4, 13, 0, 849) := by decide +kernel
theorem dc_159_68 : decode (sm_cc 159) 68 = .ok (.iastore, 1) := by decide +kernel
theorem dc_159_69 : decode (sm_cc 159) 69 = .ok (.aload_n 0, 1) := by decide +kernel
theorem dc_159_70 : decode (sm_cc 159) 70 = .ok (.dup, 1) := by decide +kernel
theorem dc_159_71 : decode (sm_cc 159) 71 = .ok (.getfield 75, 3) := by decide +kernel
theorem dc_159_74 : decode (sm_cc 159) 74 = .ok (.iconst 1, 1) := by decide +kernel
theorem dc_159_75 : decode (sm_cc 159) 75 = .ok (.iadd, 1) := by decide +kernel
theorem dc_159_76 : decode (sm_cc 159) 76 = .ok (.putfield 75, 3) := by decide +kernel
theorem dc_159_79 : decode (sm_cc 159) 79 = .ok (.iconst 0, 1) := by decide +kernel
theorem dc_159_80 : decode (sm_cc 159) 80 = .ok (.ireturn, 1) := by decide +kernel
theorem rt_159 : sm_rt 159 = some .int := by decide +kernel
theorem ml_159 : sm_ml 159 = 2 := by decide +kernel
theorem dc_128_0 : decode (sm_cc 128) 0 = .ok (.iload_n 1, 1) := by decide +kernel
theorem dc_128_1 : decode (sm_cc 128) 1 = .ok (.tableswitch (197) 1 15 #[75, 84, 93, 103, 113, 120, 127, 134, 139, 144, 153, 163, 172, 187, 192], 75) := by decide +kernel
theorem dc_128_76 : decode (sm_cc 128) 76 = .ok (.aload_n 0, 1) := by decide +kernel
theorem dc_128_77 : decode (sm_cc 128) 77 = .ok (.aload_n 0, 1) := by decide +kernel
theorem dc_128_78 : decode (sm_cc 128) 78 = .ok (.invokevirtual 82, 3) := by decide +kernel
theorem ow_127 : 4 = sm_ow 127 := by decide +kernel
theorem cl_4 : 4 < mt_cl.length := by decide +kernel
theorem kr_128_82 : sm_at mt_k (sm_ow 128) 82 = some (82, 0, 127, 0, 1343) := by decide +kernel
theorem np_127 : sm_np 127 = 0 := by decide +kernel
theorem dc_128_81 : decode (sm_cc 128) 81 = .ok (.invokevirtual 165, 3) := by decide +kernel
theorem ow_129 : 4 = sm_ow 129 := by decide +kernel
theorem kr_128_165 : sm_at mt_k (sm_ow 128) 165 = some (165, 0, 129, 0, 1352) := by decide +kernel
theorem np_129 : sm_np 129 = 1 := by decide +kernel
theorem dc_128_84 : decode (sm_cc 128) 84 = .ok (.ireturn, 1) := by decide +kernel
theorem rt_128 : sm_rt 128 = some .int := by decide +kernel
theorem ml_128 : sm_ml 128 = 2 := by decide +kernel
theorem dc_128_85 : decode (sm_cc 128) 85 = .ok (.aload_n 0, 1) := by decide +kernel
theorem dc_128_86 : decode (sm_cc 128) 86 = .ok (.aload_n 0, 1) := by decide +kernel
theorem dc_128_87 : decode (sm_cc 128) 87 = .ok (.invokevirtual 82, 3) := by decide +kernel
theorem dc_128_90 : decode (sm_cc 128) 90 = .ok (.invokevirtual 165, 3) := by decide +kernel
theorem dc_128_93 : decode (sm_cc 128) 93 = .ok (.ireturn, 1) := by decide +kernel
theorem dc_128_94 : decode (sm_cc 128) 94 = .ok (.aload_n 0, 1) := by decide +kernel
theorem dc_128_95 : decode (sm_cc 128) 95 = .ok (.aload_n 0, 1) := by decide +kernel
theorem dc_128_96 : decode (sm_cc 128) 96 = .ok (.invokevirtual 82, 3) := by decide +kernel
theorem dc_128_99 : decode (sm_cc 128) 99 = .ok (.putfield 66, 3) := by decide +kernel
theorem fr_128_66 : sm_at mt_f (sm_ow 128) 66 = some (66, 4, 17, 0, 853) := by decide +kernel
theorem dc_128_102 : decode (sm_cc 128) 102 = .ok (.iconst 0, 1) := by decide +kernel
theorem dc_128_103 : decode (sm_cc 128) 103 = .ok (.ireturn, 1) := by decide +kernel
theorem dc_128_104 : decode (sm_cc 128) 104 = .ok (.aload_n 0, 1) := by decide +kernel
theorem dc_128_105 : decode (sm_cc 128) 105 = .ok (.aload_n 0, 1) := by decide +kernel
theorem dc_128_106 : decode (sm_cc 128) 106 = .ok (.invokevirtual 82, 3) := by decide +kernel
theorem dc_128_109 : decode (sm_cc 128) 109 = .ok (.putfield 69, 3) := by decide +kernel
theorem fr_128_69 : sm_at mt_f (sm_ow 128) 69 = some (69, 4, 16, 0, 852) := by decide +kernel
theorem dc_128_112 : decode (sm_cc 128) 112 = .ok (.iconst 0, 1) := by decide +kernel
theorem dc_128_113 : decode (sm_cc 128) 113 = .ok (.ireturn, 1) := by decide +kernel
theorem dc_128_164 : decode (sm_cc 128) 164 = .ok (.aload_n 0, 1) := by decide +kernel
theorem dc_128_165 : decode (sm_cc 128) 165 = .ok (.aload_n 0, 1) := by decide +kernel
theorem dc_128_166 : decode (sm_cc 128) 166 = .ok (.invokevirtual 82, 3) := by decide +kernel
theorem dc_128_169 : decode (sm_cc 128) 169 = .ok (.invokevirtual 181, 3) := by decide +kernel
theorem ow_159 : 4 = sm_ow 159 := by decide +kernel
theorem kr_128_181 : sm_at mt_k (sm_ow 128) 181 = some (181, 0, 159, 0, 1477) := by decide +kernel
theorem np_159 : sm_np 159 = 1 := by decide +kernel
theorem dc_128_172 : decode (sm_cc 128) 172 = .ok (.ireturn, 1) := by decide +kernel
theorem dc_128_173 : decode (sm_cc 128) 173 = .ok (.aload_n 0, 1) := by decide +kernel
theorem dc_128_174 : decode (sm_cc 128) 174 = .ok (.dup, 1) := by decide +kernel
theorem dc_128_175 : decode (sm_cc 128) 175 = .ok (.getfield 75, 3) := by decide +kernel
theorem fr_128_75 : sm_at mt_f (sm_ow 128) 75 = some (75, 4, 14, 0, 850) := by decide +kernel
theorem dc_128_178 : decode (sm_cc 128) 178 = .ok (.aload_n 0, 1) := by decide +kernel
theorem dc_128_179 : decode (sm_cc 128) 179 = .ok (.invokevirtual 82, 3) := by decide +kernel
theorem dc_128_182 : decode (sm_cc 128) 182 = .ok (.isub, 1) := by decide +kernel
theorem dc_128_183 : decode (sm_cc 128) 183 = .ok (.putfield 75, 3) := by decide +kernel
theorem dc_128_186 : decode (sm_cc 128) 186 = .ok (.iconst 0, 1) := by decide +kernel
theorem dc_128_187 : decode (sm_cc 128) 187 = .ok (.ireturn, 1) := by decide +kernel
theorem dc_128_193 : decode (sm_cc 128) 193 = .ok (.aload_n 0, 1) := by decide +kernel
theorem dc_128_194 : decode (sm_cc 128) 194 = .ok (.invokevirtual 82, 3) := by decide +kernel
theorem dc_128_197 : decode (sm_cc 128) 197 = .ok (.ireturn, 1) := by decide +kernel
theorem dc_128_198 : decode (sm_cc 128) 198 = .ok (.iconst 0, 1) := by decide +kernel
theorem dc_128_199 : decode (sm_cc 128) 199 = .ok (.ireturn, 1) := by decide +kernel
theorem operand_ev {d : Nat} {S : cS} {p : Nat} {q : Nat} (pl : sI S 5216 = nI q) (hp : sI S 2307 = nI p) (hq : q < p) (hM : p ≤ 40960) : Ans (d + 2) 127 [.ref 52] S (some (.int (sA S 24 q))) (wI 5216 (nI (q + 1)) S) := by
  refine Ans.of (by rw [ml_127]; exact Nat.le_of_ble_eq_true rfl) ?_
  refine Bod.go dc_127_0 rfl ?_
  refine Bod.get dc_127_1 fr_127_11 (mk_52 _) rfl ?_
  refine Bod.go dc_127_4 rfl ?_
  refine Bod.get dc_127_5 fr_127_69 (mk_52 _) rfl ?_
  refine Bod.eqI (nI q) (by first | assumption | rfl | exact congrArg nI (by omega) | (simp (disch := omega) only [rI, rIe, rA, rIA, rLA, rJA, rVI, rQI, rVA, rQA, upd_at,  rAI, rLI, rJI, nI_add, pk_sub, kc_0, kc_1, kc_2, kc_3, kc_4, kc_5, reduceIte, Nat.reduceEqDiff, Nat.add_zero, rI_hold, rI_hold, rL_hold, pl, hp]; done)) ?_
  refine Bod.virt (r := []) dc_127_8 kr_127_130 ⟨Or.inr rfl, ow_88, cl_7⟩ (by rw [np_88]; rfl) (by rw [np_88]; rfl) (ob_of (mk_23 _)) (Nat.le_of_ble_eq_true rfl) (at_T (p := p) (q := q) (by first | assumption | rfl | exact congrArg nI (by omega) | (simp (disch := omega) only [rI, rIe, rA, rIA, rLA, rJA, rVI, rQI, rVA, rQA, upd_at,  rAI, rLI, rJI, nI_add, pk_sub, kc_0, kc_1, kc_2, kc_3, kc_4, kc_5, reduceIte, Nat.reduceEqDiff, Nat.add_zero, rI_hold, rI_hold, rL_hold, pl, hp]; done)) (by omega) (by omega)) ?_
  show Bod _ _ _ _ [_] _ _ _
  refine Bod.istn dc_127_11 (by rw [ml_127]; exact Nat.le_of_ble_eq_true rfl) ?_
  refine Bod.go dc_127_12 rfl ?_
  refine Bod.go dc_127_13 rfl ?_
  refine Bod.get dc_127_14 fr_127_69 (mk_52 _) rfl ?_
  refine Bod.eqI (nI q) (by first | assumption | rfl | exact congrArg nI (by omega) | (simp (disch := omega) only [rI, rIe, rA, rIA, rLA, rJA, rVI, rQI, rVA, rQA, upd_at,  rAI, rLI, rJI, nI_add, pk_sub, kc_0, kc_1, kc_2, kc_3, kc_4, kc_5, reduceIte, Nat.reduceEqDiff, Nat.add_zero, rI_hold, rI_hold, rL_hold, pl, hp]; done)) ?_
  refine Bod.ic 1 (by decide) dc_127_17 ?_
  refine Bod.addN (q + 1) (by omega) dc_127_18 ?_
  refine Bod.put dc_127_19 fr_127_69 (mk_52 _) (Nat.le_of_ble_eq_true rfl) pf_4_16 (st_5216 _ _) (mu_I _ _ _) ?_
  refine Bod.go dc_127_22 rfl ?_
  exact Bod.retI dc_127_23 rt_127
theorem operand_n {d : Nat} {S : cS} {p q x : Nat} (pl : sI S 5216 = nI q) (hp : sI S 2307 = nI p) (hq : q < p) (hM : p ≤ 40960) (hx : sA S 24 q = nI x) : Ans (d + 2) 127 [.ref 52] S (some (.int (nI x))) (wI 5216 (nI (q + 1)) S) := by
  rw [← hx]
  exact operand_ev pl hp hq hM
theorem at_n {d : Nat} {S : cS} {p q x : Nat} (hp : sI S 2307 = nI p) (hq : q < p) (hM : p ≤ 40960) (hx : sA S 24 q = nI x) : Ans (d + 1) 88 [.ref 23, .int (nI q)] S (some (.int (nI x))) S := by
  rw [← hx]
  exact at_T hp hq hM
theorem step_ok {d : Nat} {S : cS} {s : Nat} {f : Nat} {l : Int32} (hs : sI S 5218 = nI s) (hf : sI S 5219 = nI f) (h : s < f) (h2 : f < 2 ^ 31) : Ans (d + 1) 129 [.ref 52, .int l] S (some (.int (nI 0))) (wI 5218 (nI (s + 1)) (wI 5217 l S)) := by
  refine Ans.of (by rw [ml_129]; exact Nat.le_of_ble_eq_true rfl) ?_
  refine Bod.go dc_129_0 rfl ?_
  refine Bod.go dc_129_1 rfl ?_
  refine Bod.put dc_129_2 fr_129_66 (mk_52 _) (Nat.le_of_ble_eq_true rfl) pf_4_17 (st_5217 _ _) (mu_I _ _ _) ?_
  refine Bod.go dc_129_5 rfl ?_
  refine Bod.get dc_129_6 fr_129_62 (mk_52 _) rfl ?_
  refine Bod.eqI (nI s) (by first | (simp (disch := omega) only [rI, rIe, rA, rIA, rLA, rJA, rVI, rQI, rVA, rQA, upd_at,  rAI, rLI, rJI, nI_add, pk_sub, kc_0, kc_1, kc_2, kc_3, kc_4, kc_5, reduceIte, Nat.reduceEqDiff, Nat.add_zero, rI_hold, rI_hold, rL_hold, hs, hf]; done) | (simp (disch := omega) only [rI, rIe, rA, rIA, rLA, rJA, rVI, rQI, rVA, rQA, upd_at,  rAI, rLI, rJI, nI_add, pk_sub, kc_0, kc_1, kc_2, kc_3, kc_4, kc_5, reduceIte, Nat.reduceEqDiff, Nat.add_zero, rI_hold, rI_hold, rL_hold, hs, hf]; exact congrArg nI (by omega))) ?_
  refine Bod.go dc_129_9 rfl ?_
  refine Bod.get dc_129_10 fr_129_72 (mk_52 _) rfl ?_
  refine Bod.eqI (nI f) (by first | (simp (disch := omega) only [rI, rIe, rA, rIA, rLA, rJA, rVI, rQI, rVA, rQA, upd_at,  rAI, rLI, rJI, nI_add, pk_sub, kc_0, kc_1, kc_2, kc_3, kc_4, kc_5, reduceIte, Nat.reduceEqDiff, Nat.add_zero, rI_hold, rI_hold, rL_hold, hs, hf]; done) | (simp (disch := omega) only [rI, rIe, rA, rIA, rLA, rJA, rVI, rQI, rVA, rQA, upd_at,  rAI, rLI, rJI, nI_add, pk_sub, kc_0, kc_1, kc_2, kc_3, kc_4, kc_5, reduceIte, Nat.reduceEqDiff, Nat.add_zero, rI_hold, rI_hold, rL_hold, hs, hf]; exact congrArg nI (by omega))) ?_
  refine Bod.icT dc_129_13 rfl (k2_lt_T s f rfl rfl (by omega) (by omega)) ?_
  refine Bod.go dc_129_19 rfl ?_
  refine Bod.go dc_129_20 rfl ?_
  refine Bod.get dc_129_21 fr_129_62 (mk_52 _) rfl ?_
  refine Bod.eqI (nI s) (by first | (simp (disch := omega) only [rI, rIe, rA, rIA, rLA, rJA, rVI, rQI, rVA, rQA, upd_at,  rAI, rLI, rJI, nI_add, pk_sub, kc_0, kc_1, kc_2, kc_3, kc_4, kc_5, reduceIte, Nat.reduceEqDiff, Nat.add_zero, rI_hold, rI_hold, rL_hold, hs, hf]; done) | (simp (disch := omega) only [rI, rIe, rA, rIA, rLA, rJA, rVI, rQI, rVA, rQA, upd_at,  rAI, rLI, rJI, nI_add, pk_sub, kc_0, kc_1, kc_2, kc_3, kc_4, kc_5, reduceIte, Nat.reduceEqDiff, Nat.add_zero, rI_hold, rI_hold, rL_hold, hs, hf]; exact congrArg nI (by omega))) ?_
  refine Bod.ic 1 (by decide) dc_129_24 ?_
  refine Bod.addN (s + 1) (by omega) dc_129_25 ?_
  refine Bod.put dc_129_26 fr_129_62 (mk_52 _) (Nat.le_of_ble_eq_true rfl) pf_4_18 (st_5218 _ _) (mu_I _ _ _) ?_
  refine Bod.ic 0 (by decide) dc_129_29 ?_
  exact Bod.retI dc_129_30 rt_129
theorem step_no {d : Nat} {S : cS} {s : Nat} {f : Nat} {l : Int32} (hs : sI S 5218 = nI s) (hf : sI S 5219 = nI f) (h : f ≤ s) (h2 : s < 2 ^ 31) : Ans (d + 1) 129 [.ref 52, .int l] S (some (.int (nI 100))) (wI 5217 l S) := by
  refine Ans.of (by rw [ml_129]; exact Nat.le_of_ble_eq_true rfl) ?_
  refine Bod.go dc_129_0 rfl ?_
  refine Bod.go dc_129_1 rfl ?_
  refine Bod.put dc_129_2 fr_129_66 (mk_52 _) (Nat.le_of_ble_eq_true rfl) pf_4_17 (st_5217 _ _) (mu_I _ _ _) ?_
  refine Bod.go dc_129_5 rfl ?_
  refine Bod.get dc_129_6 fr_129_62 (mk_52 _) rfl ?_
  refine Bod.eqI (nI s) (by first | (simp (disch := omega) only [rI, rIe, rA, rIA, rLA, rJA, rVI, rQI, rVA, rQA, upd_at,  rAI, rLI, rJI, nI_add, pk_sub, kc_0, kc_1, kc_2, kc_3, kc_4, kc_5, reduceIte, Nat.reduceEqDiff, Nat.add_zero, rI_hold, rI_hold, rL_hold, hs, hf]; done) | (simp (disch := omega) only [rI, rIe, rA, rIA, rLA, rJA, rVI, rQI, rVA, rQA, upd_at,  rAI, rLI, rJI, nI_add, pk_sub, kc_0, kc_1, kc_2, kc_3, kc_4, kc_5, reduceIte, Nat.reduceEqDiff, Nat.add_zero, rI_hold, rI_hold, rL_hold, hs, hf]; exact congrArg nI (by omega))) ?_
  refine Bod.go dc_129_9 rfl ?_
  refine Bod.get dc_129_10 fr_129_72 (mk_52 _) rfl ?_
  refine Bod.eqI (nI f) (by first | (simp (disch := omega) only [rI, rIe, rA, rIA, rLA, rJA, rVI, rQI, rVA, rQA, upd_at,  rAI, rLI, rJI, nI_add, pk_sub, kc_0, kc_1, kc_2, kc_3, kc_4, kc_5, reduceIte, Nat.reduceEqDiff, Nat.add_zero, rI_hold, rI_hold, rL_hold, hs, hf]; done) | (simp (disch := omega) only [rI, rIe, rA, rIA, rLA, rJA, rVI, rQI, rVA, rQA, upd_at,  rAI, rLI, rJI, nI_add, pk_sub, kc_0, kc_1, kc_2, kc_3, kc_4, kc_5, reduceIte, Nat.reduceEqDiff, Nat.add_zero, rI_hold, rI_hold, rL_hold, hs, hf]; exact congrArg nI (by omega))) ?_
  refine Bod.icF dc_129_13 rfl (k2_lt_F s f rfl rfl (by omega) (by omega)) ?_
  refine Bod.bip 100 (by decide) dc_129_16 ?_
  exact Bod.retI dc_129_18 rt_129
theorem beginTry_ev {d : Nat} {S : cS} {t : Nat} {h : Nat} {z : Nat} {c : Nat} (ht : sI S 5214 = nI t) (hM : t < 341) (hz : sI S 4603 = nI z) (hc : sI S 5213 = nI c) : Ans (d + 1) 159 [.ref 52, .int (nI h)] S (some (.int (nI 0))) (wI 5214 (nI (t + 1)) (wA 60 (3 * t + 2) (nI c) (wA 60 (3 * t + 1) (nI z) (wA 60 (3 * t) (nI h) S)))) := by
  refine Ans.of (by rw [ml_159]; exact Nat.le_of_ble_eq_true rfl) ?_
  refine Bod.go dc_159_0 rfl ?_
  refine Bod.get dc_159_1 fr_159_75 (mk_52 _) rfl ?_
  refine Bod.eqI (nI t) (by first | assumption | rfl | exact congrArg nI (by omega) | (simp (disch := omega) only [rI, rIe, rA, rIA, rLA, rJA, rVI, rQI, rVA, rQA, upd_at,  rAI, rLI, rJI, nI_add, pk_sub, kc_0, kc_1, kc_2, kc_3, kc_4, kc_5, reduceIte, Nat.reduceEqDiff, Nat.add_zero, rI_hold, rI_hold, rL_hold, ht, hz, hc]; done)) ?_
  refine Bod.ifF dc_159_4 rfl (k1_lt_F t rfl (by omega)) ?_
  refine Bod.go dc_159_7 rfl ?_
  refine Bod.get dc_159_8 fr_159_75 (mk_52 _) rfl ?_
  refine Bod.eqI (nI t) (by first | assumption | rfl | exact congrArg nI (by omega) | (simp (disch := omega) only [rI, rIe, rA, rIA, rLA, rJA, rVI, rQI, rVA, rQA, upd_at,  rAI, rLI, rJI, nI_add, pk_sub, kc_0, kc_1, kc_2, kc_3, kc_4, kc_5, reduceIte, Nat.reduceEqDiff, Nat.add_zero, rI_hold, rI_hold, rL_hold, ht, hz, hc]; done)) ?_
  refine Bod.sip 341 (by decide) dc_159_11 ?_
  refine Bod.icT dc_159_14 rfl (k2_lt_T t 341 rfl rfl (by omega) (by omega)) ?_
  refine Bod.go dc_159_20 rfl ?_
  refine Bod.get dc_159_21 fr_159_59 (mk_52 _) rfl ?_
  refine Bod.ic 3 (by decide) dc_159_24 ?_
  refine Bod.go dc_159_25 rfl ?_
  refine Bod.get dc_159_26 fr_159_75 (mk_52 _) rfl ?_
  refine Bod.eqI (nI t) (by first | assumption | rfl | exact congrArg nI (by omega) | (simp (disch := omega) only [rI, rIe, rA, rIA, rLA, rJA, rVI, rQI, rVA, rQA, upd_at,  rAI, rLI, rJI, nI_add, pk_sub, kc_0, kc_1, kc_2, kc_3, kc_4, kc_5, reduceIte, Nat.reduceEqDiff, Nat.add_zero, rI_hold, rI_hold, rL_hold, ht, hz, hc]; done)) ?_
  refine Bod.mulN (3 * t) (by omega) dc_159_29 ?_
  refine Bod.go dc_159_30 rfl ?_
  refine Bod.iastN (3 * t) rfl (by omega) (by omega) dc_159_31 (mk_60 _) (sa_60 _ _ _) (mu_A _ _ _ _) ?_
  refine Bod.go dc_159_32 rfl ?_
  refine Bod.get dc_159_33 fr_159_59 (mk_52 _) rfl ?_
  refine Bod.ic 3 (by decide) dc_159_36 ?_
  refine Bod.go dc_159_37 rfl ?_
  refine Bod.get dc_159_38 fr_159_75 (mk_52 _) rfl ?_
  refine Bod.eqI (nI t) (by first | (simp (disch := omega) only [rI, rIe, rA, rIA, rLA, rJA, rVI, rQI, rVA, rQA, upd_at,  rAI, rLI, rJI, nI_add, pk_sub, kc_0, kc_1, kc_2, kc_3, kc_4, kc_5, reduceIte, Nat.reduceEqDiff, Nat.add_zero, rI_hold, rI_hold, rL_hold, ht, hz, hc]; done) | (simp (disch := omega) only [rI, rIe, rA, rIA, rLA, rJA, rVI, rQI, rVA, rQA, upd_at,  rAI, rLI, rJI, nI_add, pk_sub, kc_0, kc_1, kc_2, kc_3, kc_4, kc_5, reduceIte, Nat.reduceEqDiff, Nat.add_zero, rI_hold, rI_hold, rL_hold, ht, hz, hc]; exact congrArg nI (by omega))) ?_
  refine Bod.mulN (3 * t) (by omega) dc_159_41 ?_
  refine Bod.ic 1 (by decide) dc_159_42 ?_
  refine Bod.addN (3 * t + 1) (by omega) dc_159_43 ?_
  refine Bod.go dc_159_44 rfl ?_
  refine Bod.get dc_159_45 fr_159_23 (mk_52 _) rfl ?_
  refine Bod.get dc_159_48 fr_159_122 (mk_46 _) rfl ?_
  refine Bod.eqI (nI z) (by first | (simp (disch := omega) only [rI, rIe, rA, rIA, rLA, rJA, rVI, rQI, rVA, rQA, upd_at,  rAI, rLI, rJI, nI_add, pk_sub, kc_0, kc_1, kc_2, kc_3, kc_4, kc_5, reduceIte, Nat.reduceEqDiff, Nat.add_zero, rI_hold, rI_hold, rL_hold, ht, hz, hc]; done) | (simp (disch := omega) only [rI, rIe, rA, rIA, rLA, rJA, rVI, rQI, rVA, rQA, upd_at,  rAI, rLI, rJI, nI_add, pk_sub, kc_0, kc_1, kc_2, kc_3, kc_4, kc_5, reduceIte, Nat.reduceEqDiff, Nat.add_zero, rI_hold, rI_hold, rL_hold, ht, hz, hc]; exact congrArg nI (by omega))) ?_
  refine Bod.iastN (3 * t + 1) rfl (by omega) (by omega) dc_159_51 (mk_60 _) (sa_60 _ _ _) (mu_A _ _ _ _) ?_
  refine Bod.go dc_159_52 rfl ?_
  refine Bod.get dc_159_53 fr_159_59 (mk_52 _) rfl ?_
  refine Bod.ic 3 (by decide) dc_159_56 ?_
  refine Bod.go dc_159_57 rfl ?_
  refine Bod.get dc_159_58 fr_159_75 (mk_52 _) rfl ?_
  refine Bod.eqI (nI t) (by first | (simp (disch := omega) only [rI, rIe, rA, rIA, rLA, rJA, rVI, rQI, rVA, rQA, upd_at,  rAI, rLI, rJI, nI_add, pk_sub, kc_0, kc_1, kc_2, kc_3, kc_4, kc_5, reduceIte, Nat.reduceEqDiff, Nat.add_zero, rI_hold, rI_hold, rL_hold, ht, hz, hc]; done) | (simp (disch := omega) only [rI, rIe, rA, rIA, rLA, rJA, rVI, rQI, rVA, rQA, upd_at,  rAI, rLI, rJI, nI_add, pk_sub, kc_0, kc_1, kc_2, kc_3, kc_4, kc_5, reduceIte, Nat.reduceEqDiff, Nat.add_zero, rI_hold, rI_hold, rL_hold, ht, hz, hc]; exact congrArg nI (by omega))) ?_
  refine Bod.mulN (3 * t) (by omega) dc_159_61 ?_
  refine Bod.ic 2 (by decide) dc_159_62 ?_
  refine Bod.addN (3 * t + 2) (by omega) dc_159_63 ?_
  refine Bod.go dc_159_64 rfl ?_
  refine Bod.get dc_159_65 fr_159_150 (mk_52 _) rfl ?_
  refine Bod.eqI (nI c) (by first | (simp (disch := omega) only [rI, rIe, rA, rIA, rLA, rJA, rVI, rQI, rVA, rQA, upd_at,  rAI, rLI, rJI, nI_add, pk_sub, kc_0, kc_1, kc_2, kc_3, kc_4, kc_5, reduceIte, Nat.reduceEqDiff, Nat.add_zero, rI_hold, rI_hold, rL_hold, ht, hz, hc]; done) | (simp (disch := omega) only [rI, rIe, rA, rIA, rLA, rJA, rVI, rQI, rVA, rQA, upd_at,  rAI, rLI, rJI, nI_add, pk_sub, kc_0, kc_1, kc_2, kc_3, kc_4, kc_5, reduceIte, Nat.reduceEqDiff, Nat.add_zero, rI_hold, rI_hold, rL_hold, ht, hz, hc]; exact congrArg nI (by omega))) ?_
  refine Bod.iastN (3 * t + 2) rfl (by omega) (by omega) dc_159_68 (mk_60 _) (sa_60 _ _ _) (mu_A _ _ _ _) ?_
  refine Bod.go dc_159_69 rfl ?_
  refine Bod.go dc_159_70 rfl ?_
  refine Bod.get dc_159_71 fr_159_75 (mk_52 _) rfl ?_
  refine Bod.eqI (nI t) (by first | (simp (disch := omega) only [rI, rIe, rA, rIA, rLA, rJA, rVI, rQI, rVA, rQA, upd_at,  rAI, rLI, rJI, nI_add, pk_sub, kc_0, kc_1, kc_2, kc_3, kc_4, kc_5, reduceIte, Nat.reduceEqDiff, Nat.add_zero, rI_hold, rI_hold, rL_hold, ht, hz, hc]; done) | (simp (disch := omega) only [rI, rIe, rA, rIA, rLA, rJA, rVI, rQI, rVA, rQA, upd_at,  rAI, rLI, rJI, nI_add, pk_sub, kc_0, kc_1, kc_2, kc_3, kc_4, kc_5, reduceIte, Nat.reduceEqDiff, Nat.add_zero, rI_hold, rI_hold, rL_hold, ht, hz, hc]; exact congrArg nI (by omega))) ?_
  refine Bod.ic 1 (by decide) dc_159_74 ?_
  refine Bod.addN (t + 1) (by omega) dc_159_75 ?_
  refine Bod.put dc_159_76 fr_159_75 (mk_52 _) (Nat.le_of_ble_eq_true rfl) pf_4_14 (st_5214 _ _) (mu_I _ _ _) ?_
  refine Bod.ic 0 (by decide) dc_159_79 ?_
  exact Bod.retI dc_159_80 rt_159
theorem flow_statement {d : Nat} {S : cS} {p : Nat} {q : Nat} {x : Nat} {s : Nat} {f : Nat} (pl : sI S 5216 = nI q) (hp : sI S 2307 = nI p) (hq : q < p) (hM : p ≤ 40960) (hx : sA S 24 q = nI x) (hs : sI S 5218 = nI s) (hf : sI S 5219 = nI f) (h : s < f) (h2 : f < 2 ^ 31) : Ans (d + 3) 128 [.ref 52, .int (nI 1)] S (some (.int (nI 0))) (wI 5218 (nI (s + 1)) (wI 5217 (nI x) (wI 5216 (nI (q + 1)) S))) := by
  refine Ans.of (by rw [ml_128]; exact Nat.le_of_ble_eq_true rfl) ?_
  refine Bod.go dc_128_0 rfl ?_
  refine Bod.sw (t := 76) dc_128_1 rfl rfl (by decide +kernel) ?_
  refine Bod.go dc_128_76 rfl ?_
  refine Bod.go dc_128_77 rfl ?_
  refine Bod.virt (r := [_]) dc_128_78 kr_128_82 ⟨Or.inl rfl, ow_127, cl_4⟩ (by rw [np_127]; rfl) (by rw [np_127]; rfl) (ob_of (mk_52 _)) (Nat.le_of_ble_eq_true rfl) (operand_n (p := p) (q := q) (x := x) (by first | assumption | rfl | exact congrArg nI (by omega) | (simp (disch := omega) only [rI, rIe, rA, rIA, rLA, rJA, rVI, rQI, rVA, rQA, upd_at,  rAI, rLI, rJI, nI_add, pk_sub, kc_0, kc_1, kc_2, kc_3, kc_4, kc_5, reduceIte, Nat.reduceEqDiff, Nat.add_zero, rI_hold, rI_hold, rL_hold, pl, hp, hx, hs, hf]; done)) (by first | assumption | rfl | exact congrArg nI (by omega) | (simp (disch := omega) only [rI, rIe, rA, rIA, rLA, rJA, rVI, rQI, rVA, rQA, upd_at,  rAI, rLI, rJI, nI_add, pk_sub, kc_0, kc_1, kc_2, kc_3, kc_4, kc_5, reduceIte, Nat.reduceEqDiff, Nat.add_zero, rI_hold, rI_hold, rL_hold, pl, hp, hx, hs, hf]; done)) (by omega) (by omega) (by first | assumption | rfl | exact congrArg nI (by omega) | (simp (disch := omega) only [rI, rIe, rA, rIA, rLA, rJA, rVI, rQI, rVA, rQA, upd_at,  rAI, rLI, rJI, nI_add, pk_sub, kc_0, kc_1, kc_2, kc_3, kc_4, kc_5, reduceIte, Nat.reduceEqDiff, Nat.add_zero, rI_hold, rI_hold, rL_hold, pl, hp, hx, hs, hf]; done))) ?_
  show Bod _ _ _ _ [_, _] _ _ _
  refine Bod.virt (r := []) dc_128_81 kr_128_165 ⟨Or.inl rfl, ow_129, cl_4⟩ (by rw [np_129]; rfl) (by rw [np_129]; rfl) (ob_of (mk_52 _)) (Nat.le_of_ble_eq_true rfl) (step_ok (s := s) (f := f) (l := nI x) (by first | (simp (disch := omega) only [rI, rIe, rA, rIA, rLA, rJA, rVI, rQI, rVA, rQA, upd_at,  rAI, rLI, rJI, nI_add, pk_sub, kc_0, kc_1, kc_2, kc_3, kc_4, kc_5, reduceIte, Nat.reduceEqDiff, Nat.add_zero, rI_hold, rI_hold, rL_hold, pl, hp, hx, hs, hf]; done) | (simp (disch := omega) only [rI, rIe, rA, rIA, rLA, rJA, rVI, rQI, rVA, rQA, upd_at,  rAI, rLI, rJI, nI_add, pk_sub, kc_0, kc_1, kc_2, kc_3, kc_4, kc_5, reduceIte, Nat.reduceEqDiff, Nat.add_zero, rI_hold, rI_hold, rL_hold, pl, hp, hx, hs, hf]; exact congrArg nI (by omega))) (by first | (simp (disch := omega) only [rI, rIe, rA, rIA, rLA, rJA, rVI, rQI, rVA, rQA, upd_at,  rAI, rLI, rJI, nI_add, pk_sub, kc_0, kc_1, kc_2, kc_3, kc_4, kc_5, reduceIte, Nat.reduceEqDiff, Nat.add_zero, rI_hold, rI_hold, rL_hold, pl, hp, hx, hs, hf]; done) | (simp (disch := omega) only [rI, rIe, rA, rIA, rLA, rJA, rVI, rQI, rVA, rQA, upd_at,  rAI, rLI, rJI, nI_add, pk_sub, kc_0, kc_1, kc_2, kc_3, kc_4, kc_5, reduceIte, Nat.reduceEqDiff, Nat.add_zero, rI_hold, rI_hold, rL_hold, pl, hp, hx, hs, hf]; exact congrArg nI (by omega))) (by omega) (by omega)) ?_
  show Bod _ _ _ _ [_] _ _ _
  exact Bod.retI dc_128_84 rt_128
theorem flow_statement_no {d : Nat} {S : cS} {p : Nat} {q : Nat} {x : Nat} {s : Nat} {f : Nat} (pl : sI S 5216 = nI q) (hp : sI S 2307 = nI p) (hq : q < p) (hM : p ≤ 40960) (hx : sA S 24 q = nI x) (hs : sI S 5218 = nI s) (hf : sI S 5219 = nI f) (h : f ≤ s) (h2 : s < 2 ^ 31) : Ans (d + 3) 128 [.ref 52, .int (nI 1)] S (some (.int (nI 100))) (wI 5217 (nI x) (wI 5216 (nI (q + 1)) S)) := by
  refine Ans.of (by rw [ml_128]; exact Nat.le_of_ble_eq_true rfl) ?_
  refine Bod.go dc_128_0 rfl ?_
  refine Bod.sw (t := 76) dc_128_1 rfl rfl (by decide +kernel) ?_
  refine Bod.go dc_128_76 rfl ?_
  refine Bod.go dc_128_77 rfl ?_
  refine Bod.virt (r := [_]) dc_128_78 kr_128_82 ⟨Or.inl rfl, ow_127, cl_4⟩ (by rw [np_127]; rfl) (by rw [np_127]; rfl) (ob_of (mk_52 _)) (Nat.le_of_ble_eq_true rfl) (operand_n (p := p) (q := q) (x := x) (by first | assumption | rfl | exact congrArg nI (by omega) | (simp (disch := omega) only [rI, rIe, rA, rIA, rLA, rJA, rVI, rQI, rVA, rQA, upd_at,  rAI, rLI, rJI, nI_add, pk_sub, kc_0, kc_1, kc_2, kc_3, kc_4, kc_5, reduceIte, Nat.reduceEqDiff, Nat.add_zero, rI_hold, rI_hold, rL_hold, pl, hp, hx, hs, hf]; done)) (by first | assumption | rfl | exact congrArg nI (by omega) | (simp (disch := omega) only [rI, rIe, rA, rIA, rLA, rJA, rVI, rQI, rVA, rQA, upd_at,  rAI, rLI, rJI, nI_add, pk_sub, kc_0, kc_1, kc_2, kc_3, kc_4, kc_5, reduceIte, Nat.reduceEqDiff, Nat.add_zero, rI_hold, rI_hold, rL_hold, pl, hp, hx, hs, hf]; done)) (by omega) (by omega) (by first | assumption | rfl | exact congrArg nI (by omega) | (simp (disch := omega) only [rI, rIe, rA, rIA, rLA, rJA, rVI, rQI, rVA, rQA, upd_at,  rAI, rLI, rJI, nI_add, pk_sub, kc_0, kc_1, kc_2, kc_3, kc_4, kc_5, reduceIte, Nat.reduceEqDiff, Nat.add_zero, rI_hold, rI_hold, rL_hold, pl, hp, hx, hs, hf]; done))) ?_
  show Bod _ _ _ _ [_, _] _ _ _
  refine Bod.virt (r := []) dc_128_81 kr_128_165 ⟨Or.inl rfl, ow_129, cl_4⟩ (by rw [np_129]; rfl) (by rw [np_129]; rfl) (ob_of (mk_52 _)) (Nat.le_of_ble_eq_true rfl) (step_no (s := s) (f := f) (l := nI x) (by first | (simp (disch := omega) only [rI, rIe, rA, rIA, rLA, rJA, rVI, rQI, rVA, rQA, upd_at,  rAI, rLI, rJI, nI_add, pk_sub, kc_0, kc_1, kc_2, kc_3, kc_4, kc_5, reduceIte, Nat.reduceEqDiff, Nat.add_zero, rI_hold, rI_hold, rL_hold, pl, hp, hx, hs, hf]; done) | (simp (disch := omega) only [rI, rIe, rA, rIA, rLA, rJA, rVI, rQI, rVA, rQA, upd_at,  rAI, rLI, rJI, nI_add, pk_sub, kc_0, kc_1, kc_2, kc_3, kc_4, kc_5, reduceIte, Nat.reduceEqDiff, Nat.add_zero, rI_hold, rI_hold, rL_hold, pl, hp, hx, hs, hf]; exact congrArg nI (by omega))) (by first | (simp (disch := omega) only [rI, rIe, rA, rIA, rLA, rJA, rVI, rQI, rVA, rQA, upd_at,  rAI, rLI, rJI, nI_add, pk_sub, kc_0, kc_1, kc_2, kc_3, kc_4, kc_5, reduceIte, Nat.reduceEqDiff, Nat.add_zero, rI_hold, rI_hold, rL_hold, pl, hp, hx, hs, hf]; done) | (simp (disch := omega) only [rI, rIe, rA, rIA, rLA, rJA, rVI, rQI, rVA, rQA, upd_at,  rAI, rLI, rJI, nI_add, pk_sub, kc_0, kc_1, kc_2, kc_3, kc_4, kc_5, reduceIte, Nat.reduceEqDiff, Nat.add_zero, rI_hold, rI_hold, rL_hold, pl, hp, hx, hs, hf]; exact congrArg nI (by omega))) (by omega) (by omega)) ?_
  show Bod _ _ _ _ [_] _ _ _
  exact Bod.retI dc_128_84 rt_128
theorem flow_back {d : Nat} {S : cS} {p : Nat} {q : Nat} {x : Nat} {s : Nat} {f : Nat} (pl : sI S 5216 = nI q) (hp : sI S 2307 = nI p) (hq : q < p) (hM : p ≤ 40960) (hx : sA S 24 q = nI x) (hs : sI S 5218 = nI s) (hf : sI S 5219 = nI f) (h : s < f) (h2 : f < 2 ^ 31) : Ans (d + 3) 128 [.ref 52, .int (nI 2)] S (some (.int (nI 0))) (wI 5218 (nI (s + 1)) (wI 5217 (nI x) (wI 5216 (nI (q + 1)) S))) := by
  refine Ans.of (by rw [ml_128]; exact Nat.le_of_ble_eq_true rfl) ?_
  refine Bod.go dc_128_0 rfl ?_
  refine Bod.sw (t := 85) dc_128_1 rfl rfl (by decide +kernel) ?_
  refine Bod.go dc_128_85 rfl ?_
  refine Bod.go dc_128_86 rfl ?_
  refine Bod.virt (r := [_]) dc_128_87 kr_128_82 ⟨Or.inl rfl, ow_127, cl_4⟩ (by rw [np_127]; rfl) (by rw [np_127]; rfl) (ob_of (mk_52 _)) (Nat.le_of_ble_eq_true rfl) (operand_n (p := p) (q := q) (x := x) (by first | assumption | rfl | exact congrArg nI (by omega) | (simp (disch := omega) only [rI, rIe, rA, rIA, rLA, rJA, rVI, rQI, rVA, rQA, upd_at,  rAI, rLI, rJI, nI_add, pk_sub, kc_0, kc_1, kc_2, kc_3, kc_4, kc_5, reduceIte, Nat.reduceEqDiff, Nat.add_zero, rI_hold, rI_hold, rL_hold, pl, hp, hx, hs, hf]; done)) (by first | assumption | rfl | exact congrArg nI (by omega) | (simp (disch := omega) only [rI, rIe, rA, rIA, rLA, rJA, rVI, rQI, rVA, rQA, upd_at,  rAI, rLI, rJI, nI_add, pk_sub, kc_0, kc_1, kc_2, kc_3, kc_4, kc_5, reduceIte, Nat.reduceEqDiff, Nat.add_zero, rI_hold, rI_hold, rL_hold, pl, hp, hx, hs, hf]; done)) (by omega) (by omega) (by first | assumption | rfl | exact congrArg nI (by omega) | (simp (disch := omega) only [rI, rIe, rA, rIA, rLA, rJA, rVI, rQI, rVA, rQA, upd_at,  rAI, rLI, rJI, nI_add, pk_sub, kc_0, kc_1, kc_2, kc_3, kc_4, kc_5, reduceIte, Nat.reduceEqDiff, Nat.add_zero, rI_hold, rI_hold, rL_hold, pl, hp, hx, hs, hf]; done))) ?_
  show Bod _ _ _ _ [_, _] _ _ _
  refine Bod.virt (r := []) dc_128_90 kr_128_165 ⟨Or.inl rfl, ow_129, cl_4⟩ (by rw [np_129]; rfl) (by rw [np_129]; rfl) (ob_of (mk_52 _)) (Nat.le_of_ble_eq_true rfl) (step_ok (s := s) (f := f) (l := nI x) (by first | (simp (disch := omega) only [rI, rIe, rA, rIA, rLA, rJA, rVI, rQI, rVA, rQA, upd_at,  rAI, rLI, rJI, nI_add, pk_sub, kc_0, kc_1, kc_2, kc_3, kc_4, kc_5, reduceIte, Nat.reduceEqDiff, Nat.add_zero, rI_hold, rI_hold, rL_hold, pl, hp, hx, hs, hf]; done) | (simp (disch := omega) only [rI, rIe, rA, rIA, rLA, rJA, rVI, rQI, rVA, rQA, upd_at,  rAI, rLI, rJI, nI_add, pk_sub, kc_0, kc_1, kc_2, kc_3, kc_4, kc_5, reduceIte, Nat.reduceEqDiff, Nat.add_zero, rI_hold, rI_hold, rL_hold, pl, hp, hx, hs, hf]; exact congrArg nI (by omega))) (by first | (simp (disch := omega) only [rI, rIe, rA, rIA, rLA, rJA, rVI, rQI, rVA, rQA, upd_at,  rAI, rLI, rJI, nI_add, pk_sub, kc_0, kc_1, kc_2, kc_3, kc_4, kc_5, reduceIte, Nat.reduceEqDiff, Nat.add_zero, rI_hold, rI_hold, rL_hold, pl, hp, hx, hs, hf]; done) | (simp (disch := omega) only [rI, rIe, rA, rIA, rLA, rJA, rVI, rQI, rVA, rQA, upd_at,  rAI, rLI, rJI, nI_add, pk_sub, kc_0, kc_1, kc_2, kc_3, kc_4, kc_5, reduceIte, Nat.reduceEqDiff, Nat.add_zero, rI_hold, rI_hold, rL_hold, pl, hp, hx, hs, hf]; exact congrArg nI (by omega))) (by omega) (by omega)) ?_
  show Bod _ _ _ _ [_] _ _ _
  exact Bod.retI dc_128_93 rt_128
theorem flow_back_no {d : Nat} {S : cS} {p : Nat} {q : Nat} {x : Nat} {s : Nat} {f : Nat} (pl : sI S 5216 = nI q) (hp : sI S 2307 = nI p) (hq : q < p) (hM : p ≤ 40960) (hx : sA S 24 q = nI x) (hs : sI S 5218 = nI s) (hf : sI S 5219 = nI f) (h : f ≤ s) (h2 : s < 2 ^ 31) : Ans (d + 3) 128 [.ref 52, .int (nI 2)] S (some (.int (nI 100))) (wI 5217 (nI x) (wI 5216 (nI (q + 1)) S)) := by
  refine Ans.of (by rw [ml_128]; exact Nat.le_of_ble_eq_true rfl) ?_
  refine Bod.go dc_128_0 rfl ?_
  refine Bod.sw (t := 85) dc_128_1 rfl rfl (by decide +kernel) ?_
  refine Bod.go dc_128_85 rfl ?_
  refine Bod.go dc_128_86 rfl ?_
  refine Bod.virt (r := [_]) dc_128_87 kr_128_82 ⟨Or.inl rfl, ow_127, cl_4⟩ (by rw [np_127]; rfl) (by rw [np_127]; rfl) (ob_of (mk_52 _)) (Nat.le_of_ble_eq_true rfl) (operand_n (p := p) (q := q) (x := x) (by first | assumption | rfl | exact congrArg nI (by omega) | (simp (disch := omega) only [rI, rIe, rA, rIA, rLA, rJA, rVI, rQI, rVA, rQA, upd_at,  rAI, rLI, rJI, nI_add, pk_sub, kc_0, kc_1, kc_2, kc_3, kc_4, kc_5, reduceIte, Nat.reduceEqDiff, Nat.add_zero, rI_hold, rI_hold, rL_hold, pl, hp, hx, hs, hf]; done)) (by first | assumption | rfl | exact congrArg nI (by omega) | (simp (disch := omega) only [rI, rIe, rA, rIA, rLA, rJA, rVI, rQI, rVA, rQA, upd_at,  rAI, rLI, rJI, nI_add, pk_sub, kc_0, kc_1, kc_2, kc_3, kc_4, kc_5, reduceIte, Nat.reduceEqDiff, Nat.add_zero, rI_hold, rI_hold, rL_hold, pl, hp, hx, hs, hf]; done)) (by omega) (by omega) (by first | assumption | rfl | exact congrArg nI (by omega) | (simp (disch := omega) only [rI, rIe, rA, rIA, rLA, rJA, rVI, rQI, rVA, rQA, upd_at,  rAI, rLI, rJI, nI_add, pk_sub, kc_0, kc_1, kc_2, kc_3, kc_4, kc_5, reduceIte, Nat.reduceEqDiff, Nat.add_zero, rI_hold, rI_hold, rL_hold, pl, hp, hx, hs, hf]; done))) ?_
  show Bod _ _ _ _ [_, _] _ _ _
  refine Bod.virt (r := []) dc_128_90 kr_128_165 ⟨Or.inl rfl, ow_129, cl_4⟩ (by rw [np_129]; rfl) (by rw [np_129]; rfl) (ob_of (mk_52 _)) (Nat.le_of_ble_eq_true rfl) (step_no (s := s) (f := f) (l := nI x) (by first | (simp (disch := omega) only [rI, rIe, rA, rIA, rLA, rJA, rVI, rQI, rVA, rQA, upd_at,  rAI, rLI, rJI, nI_add, pk_sub, kc_0, kc_1, kc_2, kc_3, kc_4, kc_5, reduceIte, Nat.reduceEqDiff, Nat.add_zero, rI_hold, rI_hold, rL_hold, pl, hp, hx, hs, hf]; done) | (simp (disch := omega) only [rI, rIe, rA, rIA, rLA, rJA, rVI, rQI, rVA, rQA, upd_at,  rAI, rLI, rJI, nI_add, pk_sub, kc_0, kc_1, kc_2, kc_3, kc_4, kc_5, reduceIte, Nat.reduceEqDiff, Nat.add_zero, rI_hold, rI_hold, rL_hold, pl, hp, hx, hs, hf]; exact congrArg nI (by omega))) (by first | (simp (disch := omega) only [rI, rIe, rA, rIA, rLA, rJA, rVI, rQI, rVA, rQA, upd_at,  rAI, rLI, rJI, nI_add, pk_sub, kc_0, kc_1, kc_2, kc_3, kc_4, kc_5, reduceIte, Nat.reduceEqDiff, Nat.add_zero, rI_hold, rI_hold, rL_hold, pl, hp, hx, hs, hf]; done) | (simp (disch := omega) only [rI, rIe, rA, rIA, rLA, rJA, rVI, rQI, rVA, rQA, upd_at,  rAI, rLI, rJI, nI_add, pk_sub, kc_0, kc_1, kc_2, kc_3, kc_4, kc_5, reduceIte, Nat.reduceEqDiff, Nat.add_zero, rI_hold, rI_hold, rL_hold, pl, hp, hx, hs, hf]; exact congrArg nI (by omega))) (by omega) (by omega)) ?_
  show Bod _ _ _ _ [_] _ _ _
  exact Bod.retI dc_128_93 rt_128
theorem flow_line {d : Nat} {S : cS} {p : Nat} {q : Nat} {x : Nat} (pl : sI S 5216 = nI q) (hp : sI S 2307 = nI p) (hq : q < p) (hM : p ≤ 40960) (hx : sA S 24 q = nI x) : Ans (d + 3) 128 [.ref 52, .int (nI 3)] S (some (.int (nI 0))) (wI 5217 (nI x) (wI 5216 (nI (q + 1)) S)) := by
  refine Ans.of (by rw [ml_128]; exact Nat.le_of_ble_eq_true rfl) ?_
  refine Bod.go dc_128_0 rfl ?_
  refine Bod.sw (t := 94) dc_128_1 rfl rfl (by decide +kernel) ?_
  refine Bod.go dc_128_94 rfl ?_
  refine Bod.go dc_128_95 rfl ?_
  refine Bod.virt (r := [_]) dc_128_96 kr_128_82 ⟨Or.inl rfl, ow_127, cl_4⟩ (by rw [np_127]; rfl) (by rw [np_127]; rfl) (ob_of (mk_52 _)) (Nat.le_of_ble_eq_true rfl) (operand_n (p := p) (q := q) (x := x) (by first | assumption | rfl | exact congrArg nI (by omega) | (simp (disch := omega) only [rI, rIe, rA, rIA, rLA, rJA, rVI, rQI, rVA, rQA, upd_at,  rAI, rLI, rJI, nI_add, pk_sub, kc_0, kc_1, kc_2, kc_3, kc_4, kc_5, reduceIte, Nat.reduceEqDiff, Nat.add_zero, rI_hold, rI_hold, rL_hold, pl, hp, hx]; done)) (by first | assumption | rfl | exact congrArg nI (by omega) | (simp (disch := omega) only [rI, rIe, rA, rIA, rLA, rJA, rVI, rQI, rVA, rQA, upd_at,  rAI, rLI, rJI, nI_add, pk_sub, kc_0, kc_1, kc_2, kc_3, kc_4, kc_5, reduceIte, Nat.reduceEqDiff, Nat.add_zero, rI_hold, rI_hold, rL_hold, pl, hp, hx]; done)) (by omega) (by omega) (by first | assumption | rfl | exact congrArg nI (by omega) | (simp (disch := omega) only [rI, rIe, rA, rIA, rLA, rJA, rVI, rQI, rVA, rQA, upd_at,  rAI, rLI, rJI, nI_add, pk_sub, kc_0, kc_1, kc_2, kc_3, kc_4, kc_5, reduceIte, Nat.reduceEqDiff, Nat.add_zero, rI_hold, rI_hold, rL_hold, pl, hp, hx]; done))) ?_
  show Bod _ _ _ _ [_, _] _ _ _
  refine Bod.put dc_128_99 fr_128_66 (mk_52 _) (Nat.le_of_ble_eq_true rfl) pf_4_17 (st_5217 _ _) (mu_I _ _ _) ?_
  refine Bod.ic 0 (by decide) dc_128_102 ?_
  exact Bod.retI dc_128_103 rt_128
theorem flow_jump {d : Nat} {S : cS} {p : Nat} {q : Nat} {x : Nat} (pl : sI S 5216 = nI q) (hp : sI S 2307 = nI p) (hq : q < p) (hM : p ≤ 40960) (hx : sA S 24 q = nI x) : Ans (d + 3) 128 [.ref 52, .int (nI 4)] S (some (.int (nI 0))) (wI 5216 (nI x) (wI 5216 (nI (q + 1)) S)) := by
  refine Ans.of (by rw [ml_128]; exact Nat.le_of_ble_eq_true rfl) ?_
  refine Bod.go dc_128_0 rfl ?_
  refine Bod.sw (t := 104) dc_128_1 rfl rfl (by decide +kernel) ?_
  refine Bod.go dc_128_104 rfl ?_
  refine Bod.go dc_128_105 rfl ?_
  refine Bod.virt (r := [_]) dc_128_106 kr_128_82 ⟨Or.inl rfl, ow_127, cl_4⟩ (by rw [np_127]; rfl) (by rw [np_127]; rfl) (ob_of (mk_52 _)) (Nat.le_of_ble_eq_true rfl) (operand_n (p := p) (q := q) (x := x) (by first | assumption | rfl | exact congrArg nI (by omega) | (simp (disch := omega) only [rI, rIe, rA, rIA, rLA, rJA, rVI, rQI, rVA, rQA, upd_at,  rAI, rLI, rJI, nI_add, pk_sub, kc_0, kc_1, kc_2, kc_3, kc_4, kc_5, reduceIte, Nat.reduceEqDiff, Nat.add_zero, rI_hold, rI_hold, rL_hold, pl, hp, hx]; done)) (by first | assumption | rfl | exact congrArg nI (by omega) | (simp (disch := omega) only [rI, rIe, rA, rIA, rLA, rJA, rVI, rQI, rVA, rQA, upd_at,  rAI, rLI, rJI, nI_add, pk_sub, kc_0, kc_1, kc_2, kc_3, kc_4, kc_5, reduceIte, Nat.reduceEqDiff, Nat.add_zero, rI_hold, rI_hold, rL_hold, pl, hp, hx]; done)) (by omega) (by omega) (by first | assumption | rfl | exact congrArg nI (by omega) | (simp (disch := omega) only [rI, rIe, rA, rIA, rLA, rJA, rVI, rQI, rVA, rQA, upd_at,  rAI, rLI, rJI, nI_add, pk_sub, kc_0, kc_1, kc_2, kc_3, kc_4, kc_5, reduceIte, Nat.reduceEqDiff, Nat.add_zero, rI_hold, rI_hold, rL_hold, pl, hp, hx]; done))) ?_
  show Bod _ _ _ _ [_, _] _ _ _
  refine Bod.put dc_128_109 fr_128_69 (mk_52 _) (Nat.le_of_ble_eq_true rfl) pf_4_16 (st_5216 _ _) (mu_I _ _ _) ?_
  refine Bod.ic 0 (by decide) dc_128_112 ?_
  exact Bod.retI dc_128_113 rt_128
theorem flow_try {d : Nat} {S : cS} {p : Nat} {q : Nat} {x : Nat} {t : Nat} {z : Nat} {c : Nat} (pl : sI S 5216 = nI q) (hp : sI S 2307 = nI p) (hq : q < p) (hM : p ≤ 40960) (hx : sA S 24 q = nI x) (ht : sI S 5214 = nI t) (hT : t < 341) (hz : sI S 4603 = nI z) (hc : sI S 5213 = nI c) : Ans (d + 3) 128 [.ref 52, .int (nI 12)] S (some (.int (nI 0))) (wI 5214 (nI (t + 1)) (wA 60 (3 * t + 2) (nI c) (wA 60 (3 * t + 1) (nI z) (wA 60 (3 * t) (nI x) (wI 5216 (nI (q + 1)) S))))) := by
  refine Ans.of (by rw [ml_128]; exact Nat.le_of_ble_eq_true rfl) ?_
  refine Bod.go dc_128_0 rfl ?_
  refine Bod.sw (t := 164) dc_128_1 rfl rfl (by decide +kernel) ?_
  refine Bod.go dc_128_164 rfl ?_
  refine Bod.go dc_128_165 rfl ?_
  refine Bod.virt (r := [_]) dc_128_166 kr_128_82 ⟨Or.inl rfl, ow_127, cl_4⟩ (by rw [np_127]; rfl) (by rw [np_127]; rfl) (ob_of (mk_52 _)) (Nat.le_of_ble_eq_true rfl) (operand_n (p := p) (q := q) (x := x) (by first | assumption | rfl | exact congrArg nI (by omega) | (simp (disch := omega) only [rI, rIe, rA, rIA, rLA, rJA, rVI, rQI, rVA, rQA, upd_at,  rAI, rLI, rJI, nI_add, pk_sub, kc_0, kc_1, kc_2, kc_3, kc_4, kc_5, reduceIte, Nat.reduceEqDiff, Nat.add_zero, rI_hold, rI_hold, rL_hold, pl, hp, hx, ht, hz, hc]; done)) (by first | assumption | rfl | exact congrArg nI (by omega) | (simp (disch := omega) only [rI, rIe, rA, rIA, rLA, rJA, rVI, rQI, rVA, rQA, upd_at,  rAI, rLI, rJI, nI_add, pk_sub, kc_0, kc_1, kc_2, kc_3, kc_4, kc_5, reduceIte, Nat.reduceEqDiff, Nat.add_zero, rI_hold, rI_hold, rL_hold, pl, hp, hx, ht, hz, hc]; done)) (by omega) (by omega) (by first | assumption | rfl | exact congrArg nI (by omega) | (simp (disch := omega) only [rI, rIe, rA, rIA, rLA, rJA, rVI, rQI, rVA, rQA, upd_at,  rAI, rLI, rJI, nI_add, pk_sub, kc_0, kc_1, kc_2, kc_3, kc_4, kc_5, reduceIte, Nat.reduceEqDiff, Nat.add_zero, rI_hold, rI_hold, rL_hold, pl, hp, hx, ht, hz, hc]; done))) ?_
  show Bod _ _ _ _ [_, _] _ _ _
  refine Bod.virt (r := []) dc_128_169 kr_128_181 ⟨Or.inl rfl, ow_159, cl_4⟩ (by rw [np_159]; rfl) (by rw [np_159]; rfl) (ob_of (mk_52 _)) (Nat.le_of_ble_eq_true rfl) (beginTry_ev (t := t) (h := x) (z := z) (c := c) (by first | (simp (disch := omega) only [rI, rIe, rA, rIA, rLA, rJA, rVI, rQI, rVA, rQA, upd_at,  rAI, rLI, rJI, nI_add, pk_sub, kc_0, kc_1, kc_2, kc_3, kc_4, kc_5, reduceIte, Nat.reduceEqDiff, Nat.add_zero, rI_hold, rI_hold, rL_hold, pl, hp, hx, ht, hz, hc]; done) | (simp (disch := omega) only [rI, rIe, rA, rIA, rLA, rJA, rVI, rQI, rVA, rQA, upd_at,  rAI, rLI, rJI, nI_add, pk_sub, kc_0, kc_1, kc_2, kc_3, kc_4, kc_5, reduceIte, Nat.reduceEqDiff, Nat.add_zero, rI_hold, rI_hold, rL_hold, pl, hp, hx, ht, hz, hc]; exact congrArg nI (by omega))) (by omega) (by first | (simp (disch := omega) only [rI, rIe, rA, rIA, rLA, rJA, rVI, rQI, rVA, rQA, upd_at,  rAI, rLI, rJI, nI_add, pk_sub, kc_0, kc_1, kc_2, kc_3, kc_4, kc_5, reduceIte, Nat.reduceEqDiff, Nat.add_zero, rI_hold, rI_hold, rL_hold, pl, hp, hx, ht, hz, hc]; done) | (simp (disch := omega) only [rI, rIe, rA, rIA, rLA, rJA, rVI, rQI, rVA, rQA, upd_at,  rAI, rLI, rJI, nI_add, pk_sub, kc_0, kc_1, kc_2, kc_3, kc_4, kc_5, reduceIte, Nat.reduceEqDiff, Nat.add_zero, rI_hold, rI_hold, rL_hold, pl, hp, hx, ht, hz, hc]; exact congrArg nI (by omega))) (by first | (simp (disch := omega) only [rI, rIe, rA, rIA, rLA, rJA, rVI, rQI, rVA, rQA, upd_at,  rAI, rLI, rJI, nI_add, pk_sub, kc_0, kc_1, kc_2, kc_3, kc_4, kc_5, reduceIte, Nat.reduceEqDiff, Nat.add_zero, rI_hold, rI_hold, rL_hold, pl, hp, hx, ht, hz, hc]; done) | (simp (disch := omega) only [rI, rIe, rA, rIA, rLA, rJA, rVI, rQI, rVA, rQA, upd_at,  rAI, rLI, rJI, nI_add, pk_sub, kc_0, kc_1, kc_2, kc_3, kc_4, kc_5, reduceIte, Nat.reduceEqDiff, Nat.add_zero, rI_hold, rI_hold, rL_hold, pl, hp, hx, ht, hz, hc]; exact congrArg nI (by omega)))) ?_
  show Bod _ _ _ _ [_] _ _ _
  exact Bod.retI dc_128_172 rt_128
theorem flow_untry {d : Nat} {S : cS} {p : Nat} {q : Nat} {x : Nat} {t : Nat} (pl : sI S 5216 = nI q) (hp : sI S 2307 = nI p) (hq : q < p) (hM : p ≤ 40960) (hx : sA S 24 q = nI x) (ht : sI S 5214 = nI t) (hT : x ≤ t) : Ans (d + 3) 128 [.ref 52, .int (nI 13)] S (some (.int (nI 0))) (wI 5214 (nI (t - x)) (wI 5216 (nI (q + 1)) S)) := by
  refine Ans.of (by rw [ml_128]; exact Nat.le_of_ble_eq_true rfl) ?_
  refine Bod.go dc_128_0 rfl ?_
  refine Bod.sw (t := 173) dc_128_1 rfl rfl (by decide +kernel) ?_
  refine Bod.go dc_128_173 rfl ?_
  refine Bod.go dc_128_174 rfl ?_
  refine Bod.get dc_128_175 fr_128_75 (mk_52 _) rfl ?_
  refine Bod.eqI (nI t) (by first | assumption | rfl | exact congrArg nI (by omega) | (simp (disch := omega) only [rI, rIe, rA, rIA, rLA, rJA, rVI, rQI, rVA, rQA, upd_at,  rAI, rLI, rJI, nI_add, pk_sub, kc_0, kc_1, kc_2, kc_3, kc_4, kc_5, reduceIte, Nat.reduceEqDiff, Nat.add_zero, rI_hold, rI_hold, rL_hold, pl, hp, hx, ht]; done)) ?_
  refine Bod.go dc_128_178 rfl ?_
  refine Bod.virt (r := [_, _]) dc_128_179 kr_128_82 ⟨Or.inl rfl, ow_127, cl_4⟩ (by rw [np_127]; rfl) (by rw [np_127]; rfl) (ob_of (mk_52 _)) (Nat.le_of_ble_eq_true rfl) (operand_n (p := p) (q := q) (x := x) (by first | assumption | rfl | exact congrArg nI (by omega) | (simp (disch := omega) only [rI, rIe, rA, rIA, rLA, rJA, rVI, rQI, rVA, rQA, upd_at,  rAI, rLI, rJI, nI_add, pk_sub, kc_0, kc_1, kc_2, kc_3, kc_4, kc_5, reduceIte, Nat.reduceEqDiff, Nat.add_zero, rI_hold, rI_hold, rL_hold, pl, hp, hx, ht]; done)) (by first | assumption | rfl | exact congrArg nI (by omega) | (simp (disch := omega) only [rI, rIe, rA, rIA, rLA, rJA, rVI, rQI, rVA, rQA, upd_at,  rAI, rLI, rJI, nI_add, pk_sub, kc_0, kc_1, kc_2, kc_3, kc_4, kc_5, reduceIte, Nat.reduceEqDiff, Nat.add_zero, rI_hold, rI_hold, rL_hold, pl, hp, hx, ht]; done)) (by omega) (by omega) (by first | assumption | rfl | exact congrArg nI (by omega) | (simp (disch := omega) only [rI, rIe, rA, rIA, rLA, rJA, rVI, rQI, rVA, rQA, upd_at,  rAI, rLI, rJI, nI_add, pk_sub, kc_0, kc_1, kc_2, kc_3, kc_4, kc_5, reduceIte, Nat.reduceEqDiff, Nat.add_zero, rI_hold, rI_hold, rL_hold, pl, hp, hx, ht]; done))) ?_
  show Bod _ _ _ _ [_, _, _] _ _ _
  refine Bod.subN (t - x) (by omega) (by omega) dc_128_182 ?_
  refine Bod.put dc_128_183 fr_128_75 (mk_52 _) (Nat.le_of_ble_eq_true rfl) pf_4_14 (st_5214 _ _) (mu_I _ _ _) ?_
  refine Bod.ic 0 (by decide) dc_128_186 ?_
  exact Bod.retI dc_128_187 rt_128
theorem flow_fail {d : Nat} {S : cS} {p : Nat} {q : Nat} {x : Nat} (pl : sI S 5216 = nI q) (hp : sI S 2307 = nI p) (hq : q < p) (hM : p ≤ 40960) (hx : sA S 24 q = nI x) : Ans (d + 3) 128 [.ref 52, .int (nI 15)] S (some (.int (nI x))) (wI 5216 (nI (q + 1)) S) := by
  refine Ans.of (by rw [ml_128]; exact Nat.le_of_ble_eq_true rfl) ?_
  refine Bod.go dc_128_0 rfl ?_
  refine Bod.sw (t := 193) dc_128_1 rfl rfl (by decide +kernel) ?_
  refine Bod.go dc_128_193 rfl ?_
  refine Bod.virt (r := []) dc_128_194 kr_128_82 ⟨Or.inl rfl, ow_127, cl_4⟩ (by rw [np_127]; rfl) (by rw [np_127]; rfl) (ob_of (mk_52 _)) (Nat.le_of_ble_eq_true rfl) (operand_n (p := p) (q := q) (x := x) (by first | assumption | rfl | exact congrArg nI (by omega) | (simp (disch := omega) only [rI, rIe, rA, rIA, rLA, rJA, rVI, rQI, rVA, rQA, upd_at,  rAI, rLI, rJI, nI_add, pk_sub, kc_0, kc_1, kc_2, kc_3, kc_4, kc_5, reduceIte, Nat.reduceEqDiff, Nat.add_zero, rI_hold, rI_hold, rL_hold, pl, hp, hx]; done)) (by first | assumption | rfl | exact congrArg nI (by omega) | (simp (disch := omega) only [rI, rIe, rA, rIA, rLA, rJA, rVI, rQI, rVA, rQA, upd_at,  rAI, rLI, rJI, nI_add, pk_sub, kc_0, kc_1, kc_2, kc_3, kc_4, kc_5, reduceIte, Nat.reduceEqDiff, Nat.add_zero, rI_hold, rI_hold, rL_hold, pl, hp, hx]; done)) (by omega) (by omega) (by first | assumption | rfl | exact congrArg nI (by omega) | (simp (disch := omega) only [rI, rIe, rA, rIA, rLA, rJA, rVI, rQI, rVA, rQA, upd_at,  rAI, rLI, rJI, nI_add, pk_sub, kc_0, kc_1, kc_2, kc_3, kc_4, kc_5, reduceIte, Nat.reduceEqDiff, Nat.add_zero, rI_hold, rI_hold, rL_hold, pl, hp, hx]; done))) ?_
  show Bod _ _ _ _ [_] _ _ _
  exact Bod.retI dc_128_197 rt_128
theorem flow_halt {d : Nat} {S : cS}   : Ans (d + 1) 128 [.ref 52, .int (nI 0)] S (some (.int (nI 0))) (S) := by
  refine Ans.of (by rw [ml_128]; exact Nat.le_of_ble_eq_true rfl) ?_
  refine Bod.go dc_128_0 rfl ?_
  refine Bod.sw (t := 198) dc_128_1 rfl rfl (by decide +kernel) ?_
  refine Bod.ic 0 (by decide) dc_128_198 ?_
  exact Bod.retI dc_128_199 rt_128
