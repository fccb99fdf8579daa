/-! WAYS of the reference's machine: every call is a hypothesis -/
theorem dc_414_200 : decode (sm_cc 414) 200 = .ok (.aload_n 0, 1) := by decide +kernel
theorem dc_414_201 : decode (sm_cc 414) 201 = .ok (.dup, 1) := by decide +kernel
theorem dc_414_202 : decode (sm_cc 414) 202 = .ok (.getfield 493, 3) := by decide +kernel
theorem dc_414_205 : decode (sm_cc 414) 205 = .ok (.iconst 2, 1) := by decide +kernel
theorem dc_414_206 : decode (sm_cc 414) 206 = .ok (.iload_n 1, 1) := by decide +kernel
theorem dc_414_207 : decode (sm_cc 414) 207 = .ok (.imul, 1) := by decide +kernel
theorem dc_414_208 : decode (sm_cc 414) 208 = .ok (.isub, 1) := by decide +kernel
theorem dc_414_209 : decode (sm_cc 414) 209 = .ok (.putfield 493, 3) := by decide +kernel
theorem dc_414_212 : decode (sm_cc 414) 212 = .ok (.aload_n 0, 1) := by decide +kernel
theorem dc_414_213 : decode (sm_cc 414) 213 = .ok (.iconst 3, 1) := by decide +kernel
theorem dc_414_214 : decode (sm_cc 414) 214 = .ok (.iload_n 2, 1) := by decide +kernel
theorem dc_414_215 : decode (sm_cc 414) 215 = .ok (.i2l, 1) := by decide +kernel
theorem dc_414_216 : decode (sm_cc 414) 216 = .ok (.lconst 0, 1) := by decide +kernel
theorem dc_414_217 : decode (sm_cc 414) 217 = .ok (.invokevirtual 549, 3) := by decide +kernel
theorem kr_414_549 : sm_at mt_k (sm_ow 414) 549 = some (549, 0, 352, 0, 2668) := by decide +kernel
theorem dc_414_220 : decode (sm_cc 414) 220 = .ok (.iconst 1, 1) := by decide +kernel
theorem dc_414_221 : decode (sm_cc 414) 221 = .ok (.ireturn, 1) := by decide +kernel
theorem rMdE_1 {d : Nat} {S : cS} {lv : sm_L} {nn : Nat} {dd : Nat} {t : Nat} {S1 : cS} (q0 : sm_get lv 0 = some (.ref 61)) (q1 : sm_get lv 1 = some (.int (nI nn))) (q2 : sm_get lv 2 = some (.int (nI dd))) (mnn : nn < 2 ^ 20) (mdd : dd < 2 ^ 20) (ht : sI S 6151 = nI t) (mt : t < 20481) (b1 : 2 * nn ≤ t) (c1 : Ans (d + 8) 352 [.ref 61, .int (nI 3), .long ((nI dd).toInt64), .long 0] (wI 6151 (nI (t - (2 * nn))) S) none S1) : Bod (d + 8) 414 200 lv [] S (some (.int 1)) (S1) := by
  refine Bod.aldnG dc_414_200 (by repeat (first | exact q0 | exact sm_get_p1 | exact sm_get_p2e | refine sm_get_p1m (by decide) (by decide) ?_ | refine sm_get_p1n (by decide) rfl ?_ | refine sm_get_p2n (by decide) (by decide) rfl ?_ | refine sm_get_p2m (by decide) (by decide) (by decide) ?_)) ?_
  refine Bod.go dc_414_201 rfl ?_
  refine Bod.get dc_414_202 fr_414_493 (mk_61 _) rfl ?_
  refine Bod.eqI (nI t) (by first | assumption | rfl | exact congrArg nI (by omega) | (simp (disch := omega) only [rI, rIe, rA, rIA, rLA, rJA, rVI, rQI, rVA, rQA, upd_at,  rAI, rLI, rJI, nI_add, pk_sub, kc_0, kc_1, kc_2, kc_3, kc_4, kc_5, reduceIte, Nat.reduceEqDiff, Nat.add_zero, rI_hold, rI_hold, rL_hold, ht]; done)) ?_
  refine Bod.ic 2 (by decide) dc_414_205 ?_
  refine Bod.ildnG dc_414_206 (by repeat (first | exact q1 | exact sm_get_p1 | exact sm_get_p2e | refine sm_get_p1m (by decide) (by decide) ?_ | refine sm_get_p1n (by decide) rfl ?_ | refine sm_get_p2n (by decide) (by decide) rfl ?_ | refine sm_get_p2m (by decide) (by decide) (by decide) ?_)) ?_
  refine Bod.mulN (2 * nn) (by omega) dc_414_207 ?_
  refine Bod.subN (t - (2 * nn)) (by omega) (by omega) dc_414_208 ?_
  refine Bod.put dc_414_209 fr_414_493 (mk_61 _) (Nat.le_of_ble_eq_true rfl) pf_14_51 (st_6151 _ _) (mu_I _ _ _) ?_
  refine Bod.aldnG dc_414_212 (by repeat (first | exact q0 | exact sm_get_p1 | exact sm_get_p2e | refine sm_get_p1m (by decide) (by decide) ?_ | refine sm_get_p1n (by decide) rfl ?_ | refine sm_get_p2n (by decide) (by decide) rfl ?_ | refine sm_get_p2m (by decide) (by decide) (by decide) ?_)) ?_
  refine Bod.ic 3 (by decide) dc_414_213 ?_
  refine Bod.ildnG dc_414_214 (by repeat (first | exact q2 | exact sm_get_p1 | exact sm_get_p2e | refine sm_get_p1m (by decide) (by decide) ?_ | refine sm_get_p1n (by decide) rfl ?_ | refine sm_get_p2n (by decide) (by decide) rfl ?_ | refine sm_get_p2m (by decide) (by decide) (by decide) ?_)) ?_
  refine Bod.go dc_414_215 rfl ?_
  refine Bod.go dc_414_216 rfl ?_
  refine Bod.virt (r := []) dc_414_217 kr_414_549 ⟨Or.inl rfl, ow_352, cl_14⟩ (by rw [np_352]; rfl) (by rw [np_352]; rfl) (ob_of (mk_61 _)) (Nat.le_of_ble_eq_true rfl) (c1  ) ?_
  show Bod _ _ _ _ [] _ _ _
  refine Bod.ic 1 (by decide) dc_414_220 ?_
  exact Bod.retZ dc_414_221 rt_414 (Or.inr rfl)
theorem rCwN_1 {d : Nat} {S Sf : cS} {v : Option Value} {nm : Nat} (mnm : nm < 2 ^ 20) (hB : ∀ lv1 : sm_L, sm_get lv1 0 = some (.ref 61) → sm_get lv1 2 = some (.int (nI nm)) → sm_get lv1 3 = some (.int (Int32.ofInt (-1))) → Bod (d + 8) 398 2 lv1 [] (S) v Sf) : Bod (d + 8) 398 0 [(0, .ref 61), (1, .int (Int32.ofInt (-1))), (2, .int (nI nm))] [] S v Sf := by
  refine Bod.go dc_398_0 rfl ?_
  refine Bod.istn dc_398_1 (by rw [ml_398]; exact Nat.le_of_ble_eq_true rfl) ?_
  exact hB _ (by first | rfl | exact (by repeat (first | exact rfl | exact sm_get_p1 | exact sm_get_p2e | refine sm_get_p1m (by decide) (by decide) ?_ | refine sm_get_p1n (by decide) rfl ?_ | refine sm_get_p2n (by decide) (by decide) rfl ?_ | refine sm_get_p2m (by decide) (by decide) (by decide) ?_))) (by first | rfl | exact (by repeat (first | exact rfl | exact sm_get_p1 | exact sm_get_p2e | refine sm_get_p1m (by decide) (by decide) ?_ | refine sm_get_p1n (by decide) rfl ?_ | refine sm_get_p2n (by decide) (by decide) rfl ?_ | refine sm_get_p2m (by decide) (by decide) (by decide) ?_))) (by first | rfl | exact (by repeat (first | exact rfl | exact sm_get_p1 | exact sm_get_p2e | refine sm_get_p1m (by decide) (by decide) ?_ | refine sm_get_p1n (by decide) rfl ?_ | refine sm_get_p2n (by decide) (by decide) rfl ?_ | refine sm_get_p2m (by decide) (by decide) (by decide) ?_)))
