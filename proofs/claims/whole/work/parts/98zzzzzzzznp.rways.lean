/-! WAYS of the reference's machine: every call is a hypothesis -/
theorem ml_357 : sm_ml 357 = 4 := by decide +kernel
theorem dc_357_0 : decode (sm_cc 357) 0 = .ok (.aload_n 0, 1) := by decide +kernel
theorem dc_357_1 : decode (sm_cc 357) 1 = .ok (.getfield 7, 3) := by decide +kernel
theorem fr_357_7 : sm_at mt_f (sm_ow 357) 7 = some (7, 14, 1, 0, 2074) := by decide +kernel
theorem dc_357_4 : decode (sm_cc 357) 4 = .ok (.iload_n 1, 1) := by decide +kernel
theorem dc_357_5 : decode (sm_cc 357) 5 = .ok (.iaload, 1) := by decide +kernel
theorem dc_357_6 : decode (sm_cc 357) 6 = .ok (.aload_n 2, 1) := by decide +kernel
theorem dc_357_7 : decode (sm_cc 357) 7 = .ok (.invokevirtual 43, 3) := by decide +kernel
theorem kr_357_43 : sm_at mt_k (sm_ow 357) 43 = some (43, 0, 4, 0, 2346) := by decide +kernel
theorem dc_357_10 : decode (sm_cc 357) 10 = .ok (.if_icmp .eq (5), 3) := by decide +kernel
theorem dc_357_15 : decode (sm_cc 357) 15 = .ok (.iconst 0, 1) := by decide +kernel
theorem dc_357_16 : decode (sm_cc 357) 16 = .ok (.istore_n 3, 1) := by decide +kernel
theorem dc_357_13 : decode (sm_cc 357) 13 = .ok (.iconst 0, 1) := by decide +kernel
theorem dc_357_14 : decode (sm_cc 357) 14 = .ok (.ireturn, 1) := by decide +kernel
theorem rt_357 : sm_rt 357 = some .boolean := by decide +kernel
theorem dc_357_17 : decode (sm_cc 357) 17 = .ok (.iload_n 3, 1) := by decide +kernel
theorem dc_357_18 : decode (sm_cc 357) 18 = .ok (.aload_n 2, 1) := by decide +kernel
theorem dc_357_19 : decode (sm_cc 357) 19 = .ok (.invokevirtual 43, 3) := by decide +kernel
theorem dc_357_22 : decode (sm_cc 357) 22 = .ok (.if_icmp .ge (30), 3) := by decide +kernel
theorem dc_357_52 : decode (sm_cc 357) 52 = .ok (.iconst 1, 1) := by decide +kernel
theorem dc_357_53 : decode (sm_cc 357) 53 = .ok (.ireturn, 1) := by decide +kernel
theorem dc_357_25 : decode (sm_cc 357) 25 = .ok (.aload_n 0, 1) := by decide +kernel
theorem dc_357_26 : decode (sm_cc 357) 26 = .ok (.getfield 11, 3) := by decide +kernel
theorem fr_357_11 : sm_at mt_f (sm_ow 357) 11 = some (11, 14, 0, 0, 2073) := by decide +kernel
theorem dc_357_29 : decode (sm_cc 357) 29 = .ok (.bipush (12), 2) := by decide +kernel
theorem dc_357_31 : decode (sm_cc 357) 31 = .ok (.iload_n 1, 1) := by decide +kernel
theorem dc_357_32 : decode (sm_cc 357) 32 = .ok (.imul, 1) := by decide +kernel
theorem dc_357_33 : decode (sm_cc 357) 33 = .ok (.iload_n 3, 1) := by decide +kernel
theorem dc_357_34 : decode (sm_cc 357) 34 = .ok (.iadd, 1) := by decide +kernel
theorem dc_357_35 : decode (sm_cc 357) 35 = .ok (.baload, 1) := by decide +kernel
theorem dc_357_36 : decode (sm_cc 357) 36 = .ok (.aload_n 2, 1) := by decide +kernel
theorem dc_357_37 : decode (sm_cc 357) 37 = .ok (.iload_n 3, 1) := by decide +kernel
theorem dc_357_38 : decode (sm_cc 357) 38 = .ok (.invokevirtual 49, 3) := by decide +kernel
theorem kr_357_49 : sm_at mt_k (sm_ow 357) 49 = some (49, 0, 6, 0, 2347) := by decide +kernel
theorem dc_357_41 : decode (sm_cc 357) 41 = .ok (.if_icmp .eq (5), 3) := by decide +kernel
theorem dc_357_46 : decode (sm_cc 357) 46 = .ok (.iinc 3 (1), 3) := by decide +kernel
theorem dc_357_49 : decode (sm_cc 357) 49 = .ok (.goto (-32), 3) := by decide +kernel
theorem dc_357_44 : decode (sm_cc 357) 44 = .ok (.iconst 0, 1) := by decide +kernel
theorem dc_357_45 : decode (sm_cc 357) 45 = .ok (.ireturn, 1) := by decide +kernel
theorem ml_384 : sm_ml 384 = 3 := by decide +kernel
theorem dc_384_0 : decode (sm_cc 384) 0 = .ok (.iconst 0, 1) := by decide +kernel
theorem dc_384_1 : decode (sm_cc 384) 1 = .ok (.istore_n 2, 1) := by decide +kernel
theorem dc_384_2 : decode (sm_cc 384) 2 = .ok (.iload_n 2, 1) := by decide +kernel
theorem dc_384_3 : decode (sm_cc 384) 3 = .ok (.aload_n 1, 1) := by decide +kernel
theorem dc_384_4 : decode (sm_cc 384) 4 = .ok (.invokevirtual 43, 3) := by decide +kernel
theorem kr_384_43 : sm_at mt_k (sm_ow 384) 43 = some (43, 0, 4, 0, 2346) := by decide +kernel
theorem dc_384_7 : decode (sm_cc 384) 7 = .ok (.if_icmp .ge (18), 3) := by decide +kernel
theorem dc_384_25 : decode (sm_cc 384) 25 = .ok (.return_, 1) := by decide +kernel
theorem rt_384 : sm_rt 384 = none := by decide +kernel
theorem dc_384_10 : decode (sm_cc 384) 10 = .ok (.aload_n 0, 1) := by decide +kernel
theorem dc_384_11 : decode (sm_cc 384) 11 = .ok (.aload_n 1, 1) := by decide +kernel
theorem dc_384_12 : decode (sm_cc 384) 12 = .ok (.iload_n 2, 1) := by decide +kernel
theorem dc_384_13 : decode (sm_cc 384) 13 = .ok (.invokevirtual 49, 3) := by decide +kernel
theorem kr_384_49 : sm_at mt_k (sm_ow 384) 49 = some (49, 0, 6, 0, 2347) := by decide +kernel
theorem dc_384_16 : decode (sm_cc 384) 16 = .ok (.invokevirtual 818, 3) := by decide +kernel
theorem kr_384_818 : sm_at mt_k (sm_ow 384) 818 = some (818, 0, 382, 0, 2848) := by decide +kernel
theorem dc_384_19 : decode (sm_cc 384) 19 = .ok (.iinc 2 (1), 3) := by decide +kernel
theorem dc_384_22 : decode (sm_cc 384) 22 = .ok (.goto (-20), 3) := by decide +kernel
theorem rIs_1 {d t : Nat} {S Sf : cS} {v : Option Value} {nm : Nat} {r : Nat} {N : Nat} {e : Nat} {S1 : cS} {a : Nat} (ht : t < 51) (mnm : nm < 2 ^ 20) (hv1 : sV S (6101) = .ref r) (hg1 : isK S r 0 N) (mN : N < 2 ^ 20) (b1 : nm < N) (he : sA S r nm = nI e) (me : e < 2 ^ 20) (ma : a < 2 ^ 20) (c1 : Ans (d + 8) 4 [.retAddr (2 * t)] S (some (.int (nI a))) S1) (b2 : e = a) (hB : ∀ lv1 : sm_L, sm_get lv1 0 = some (.ref 61) → sm_get lv1 1 = some (.int (nI nm)) → sm_get lv1 2 = some (.retAddr (2 * t)) → sm_get lv1 3 = some (.int (nI 0)) → Bod (d + 8) 357 17 lv1 [] (S1) v Sf) : Bod (d + 8) 357 0 [(0, .ref 61), (1, .int (nI nm)), (2, .retAddr (2 * t))] [] S v Sf := by
  refine Bod.go dc_357_0 rfl ?_
  refine Bod.get dc_357_1 fr_357_7 (mk_61 _) rfl ?_
  refine Bod.eqV (.ref r) (by first | exact hv1 | (simp only [rIV, rJV, rAV, rLV, rQV, rV, reduceIte, Nat.reduceEqDiff]; exact hv1) | (simp only [rIV, rJV, rAV, rLV, rQV, rV]; repeat rw [if_neg (by omega)]; exact hv1)) ?_
  refine Bod.go dc_357_4 rfl ?_
  refine Bod.ialdN (N := N) nm rfl (by omega) (by omega) dc_357_5 (mk_isI (by first | exact hg1 | exact isK_S (by simp only [rIS, rJS, rAS, rLS, rVS, rQS, rS_hold]) hg1)) ?_
  refine Bod.eqI (nI e) (by first | assumption | rfl | exact congrArg nI (by omega) | (simp (disch := omega) only [rI, rIe, rA, rIA, rLA, rJA, rVI, rQI, rVA, rQA, upd_at,  rAI, rLI, rJI, nI_add, pk_sub, kc_0, kc_1, kc_2, kc_3, kc_4, kc_5, reduceIte, Nat.reduceEqDiff, Nat.add_zero, rI_hold, rI_hold, rL_hold, he]; done)) ?_
  refine Bod.aldnT dc_357_6 rfl (by omega) ?_
  refine Bod.virtT (r := [_]) dc_357_7 kr_357_43 (Or.inl rfl) (by rw [np_4]; rfl) (by rw [np_4]; rfl) ht so_4 (Nat.le_of_ble_eq_true rfl) (c1  ) ?_
  show Bod _ _ _ _ [_, _] _ _ _
  refine Bod.icT dc_357_10 rfl (k2_eq_T (k_eq e a rfl rfl (by omega))) ?_
  refine Bod.ic 0 (by decide) dc_357_15 ?_
  refine Bod.istn dc_357_16 (by rw [ml_357]; exact Nat.le_of_ble_eq_true rfl) ?_
  exact hB _ (by first | rfl | exact (by repeat (first | exact rfl | exact sm_get_p1 | exact sm_get_p2e | refine sm_get_p1m (by decide) (by decide) ?_ | refine sm_get_p1n (by decide) rfl ?_ | refine sm_get_p2n (by decide) (by decide) rfl ?_ | refine sm_get_p2m (by decide) (by decide) (by decide) ?_))) (by first | rfl | exact (by repeat (first | exact rfl | exact sm_get_p1 | exact sm_get_p2e | refine sm_get_p1m (by decide) (by decide) ?_ | refine sm_get_p1n (by decide) rfl ?_ | refine sm_get_p2n (by decide) (by decide) rfl ?_ | refine sm_get_p2m (by decide) (by decide) (by decide) ?_))) (by first | rfl | exact (by repeat (first | exact rfl | exact sm_get_p1 | exact sm_get_p2e | refine sm_get_p1m (by decide) (by decide) ?_ | refine sm_get_p1n (by decide) rfl ?_ | refine sm_get_p2n (by decide) (by decide) rfl ?_ | refine sm_get_p2m (by decide) (by decide) (by decide) ?_))) (by first | rfl | exact (by repeat (first | exact rfl | exact sm_get_p1 | exact sm_get_p2e | refine sm_get_p1m (by decide) (by decide) ?_ | refine sm_get_p1n (by decide) rfl ?_ | refine sm_get_p2n (by decide) (by decide) rfl ?_ | refine sm_get_p2m (by decide) (by decide) (by decide) ?_)))
theorem rIs_2 {d t : Nat} {S : cS} {nm : Nat} {r : Nat} {N : Nat} {e : Nat} {S1 : cS} {a : Nat} (ht : t < 51) (mnm : nm < 2 ^ 20) (hv1 : sV S (6101) = .ref r) (hg1 : isK S r 0 N) (mN : N < 2 ^ 20) (b1 : nm < N) (he : sA S r nm = nI e) (me : e < 2 ^ 20) (ma : a < 2 ^ 20) (c1 : Ans (d + 8) 4 [.retAddr (2 * t)] S (some (.int (nI a))) S1) (b2 : e ≠ a) : Bod (d + 8) 357 0 [(0, .ref 61), (1, .int (nI nm)), (2, .retAddr (2 * t))] [] S (some (.int 0)) (S1) := by
  refine Bod.go dc_357_0 rfl ?_
  refine Bod.get dc_357_1 fr_357_7 (mk_61 _) rfl ?_
  refine Bod.eqV (.ref r) (by first | exact hv1 | (simp only [rIV, rJV, rAV, rLV, rQV, rV, reduceIte, Nat.reduceEqDiff]; exact hv1) | (simp only [rIV, rJV, rAV, rLV, rQV, rV]; repeat rw [if_neg (by omega)]; exact hv1)) ?_
  refine Bod.go dc_357_4 rfl ?_
  refine Bod.ialdN (N := N) nm rfl (by omega) (by omega) dc_357_5 (mk_isI (by first | exact hg1 | exact isK_S (by simp only [rIS, rJS, rAS, rLS, rVS, rQS, rS_hold]) hg1)) ?_
  refine Bod.eqI (nI e) (by first | assumption | rfl | exact congrArg nI (by omega) | (simp (disch := omega) only [rI, rIe, rA, rIA, rLA, rJA, rVI, rQI, rVA, rQA, upd_at,  rAI, rLI, rJI, nI_add, pk_sub, kc_0, kc_1, kc_2, kc_3, kc_4, kc_5, reduceIte, Nat.reduceEqDiff, Nat.add_zero, rI_hold, rI_hold, rL_hold, he]; done)) ?_
  refine Bod.aldnT dc_357_6 rfl (by omega) ?_
  refine Bod.virtT (r := [_]) dc_357_7 kr_357_43 (Or.inl rfl) (by rw [np_4]; rfl) (by rw [np_4]; rfl) ht so_4 (Nat.le_of_ble_eq_true rfl) (c1  ) ?_
  show Bod _ _ _ _ [_, _] _ _ _
  refine Bod.icF dc_357_10 rfl (k2_eq_F (k_ne e a rfl rfl (by omega) (by omega) (by omega))) ?_
  refine Bod.ic 0 (by decide) dc_357_13 ?_
  exact Bod.retZ dc_357_14 rt_357 (Or.inl rfl)
theorem rIsL_1 {d t : Nat} {S : cS} {lv : sm_L} {nm : Nat} {ni : Nat} {S1 : cS} {a : Nat} (ht : t < 51) (q0 : sm_get lv 0 = some (.ref 61)) (q1 : sm_get lv 1 = some (.int (nI nm))) (q2 : sm_get lv 2 = some (.retAddr (2 * t))) (q3 : sm_get lv 3 = some (.int (nI ni))) (mnm : nm < 2 ^ 20) (mni : ni < 2 ^ 20) (ma : a < 2 ^ 20) (c1 : Ans (d + 8) 4 [.retAddr (2 * t)] S (some (.int (nI a))) S1) (b1 : a ≤ ni) : Bod (d + 8) 357 17 lv [] S (some (.int 1)) (S1) := by
  refine Bod.ildnG dc_357_17 (by repeat (first | exact q3 | exact sm_get_p1 | exact sm_get_p2e | refine sm_get_p1m (by decide) (by decide) ?_ | refine sm_get_p1n (by decide) rfl ?_ | refine sm_get_p2n (by decide) (by decide) rfl ?_ | refine sm_get_p2m (by decide) (by decide) (by decide) ?_)) ?_
  refine Bod.aldnT dc_357_18 (by repeat (first | exact q2 | exact sm_get_p1 | exact sm_get_p2e | refine sm_get_p1m (by decide) (by decide) ?_ | refine sm_get_p1n (by decide) rfl ?_ | refine sm_get_p2n (by decide) (by decide) rfl ?_ | refine sm_get_p2m (by decide) (by decide) (by decide) ?_)) (by omega) ?_
  refine Bod.virtT (r := [_]) dc_357_19 kr_357_43 (Or.inl rfl) (by rw [np_4]; rfl) (by rw [np_4]; rfl) ht so_4 (Nat.le_of_ble_eq_true rfl) (c1  ) ?_
  show Bod _ _ _ _ [_, _] _ _ _
  refine Bod.icT dc_357_22 rfl (k2_ge_T ni a rfl rfl (by omega) (by omega)) ?_
  refine Bod.ic 1 (by decide) dc_357_52 ?_
  exact Bod.retZ dc_357_53 rt_357 (Or.inr rfl)
theorem rIsL_2 {d t : Nat} {S Sf : cS} {v : Option Value} {lv : sm_L} {nm : Nat} {ni : Nat} {S1 : cS} {a : Nat} {r : Nat} {N : Nat} {S2 : cS} {a1 : Nat} (ht : t < 51) (q0 : sm_get lv 0 = some (.ref 61)) (q1 : sm_get lv 1 = some (.int (nI nm))) (q2 : sm_get lv 2 = some (.retAddr (2 * t))) (q3 : sm_get lv 3 = some (.int (nI ni))) (mnm : nm < 2 ^ 20) (mni : ni < 2 ^ 20) (ma : a < 2 ^ 20) (c1 : Ans (d + 8) 4 [.retAddr (2 * t)] S (some (.int (nI a))) S1) (b1 : ni < a) (hv1 : sV S1 (6100) = .ref r) (hg1 : isK S1 r 2 N) (mN : N < 2 ^ 20) (b2 : (12 * nm + ni) < N) (ma1 : a1 < 2 ^ 20) (c2 : Ans (d + 8) 6 [.retAddr (2 * t), .int (nI ni)] S1 (some (.int (nI a1))) S2) (w12 : sA S1 r (12 * nm + ni) = nI a1) (hB : ∀ lv1 : sm_L, sm_get lv1 0 = some (.ref 61) → sm_get lv1 1 = some (.int (nI nm)) → sm_get lv1 2 = some (.retAddr (2 * t)) → sm_get lv1 3 = some (.int (nI (ni + 1))) → Bod (d + 8) 357 17 lv1 [] (S2) v Sf) : Bod (d + 8) 357 17 lv [] S v Sf := by
  refine Bod.ildnG dc_357_17 (by repeat (first | exact q3 | exact sm_get_p1 | exact sm_get_p2e | refine sm_get_p1m (by decide) (by decide) ?_ | refine sm_get_p1n (by decide) rfl ?_ | refine sm_get_p2n (by decide) (by decide) rfl ?_ | refine sm_get_p2m (by decide) (by decide) (by decide) ?_)) ?_
  refine Bod.aldnT dc_357_18 (by repeat (first | exact q2 | exact sm_get_p1 | exact sm_get_p2e | refine sm_get_p1m (by decide) (by decide) ?_ | refine sm_get_p1n (by decide) rfl ?_ | refine sm_get_p2n (by decide) (by decide) rfl ?_ | refine sm_get_p2m (by decide) (by decide) (by decide) ?_)) (by omega) ?_
  refine Bod.virtT (r := [_]) dc_357_19 kr_357_43 (Or.inl rfl) (by rw [np_4]; rfl) (by rw [np_4]; rfl) ht so_4 (Nat.le_of_ble_eq_true rfl) (c1  ) ?_
  show Bod _ _ _ _ [_, _] _ _ _
  refine Bod.icF dc_357_22 rfl (k2_ge_F ni a rfl rfl (by omega) (by omega)) ?_
  refine Bod.aldnG dc_357_25 (by repeat (first | exact q0 | exact sm_get_p1 | exact sm_get_p2e | refine sm_get_p1m (by decide) (by decide) ?_ | refine sm_get_p1n (by decide) rfl ?_ | refine sm_get_p2n (by decide) (by decide) rfl ?_ | refine sm_get_p2m (by decide) (by decide) (by decide) ?_)) ?_
  refine Bod.get dc_357_26 fr_357_11 (mk_61 _) rfl ?_
  refine Bod.eqV (.ref r) (by first | exact hv1 | (simp only [rIV, rJV, rAV, rLV, rQV, rV, reduceIte, Nat.reduceEqDiff]; exact hv1) | (simp only [rIV, rJV, rAV, rLV, rQV, rV]; repeat rw [if_neg (by omega)]; exact hv1)) ?_
  refine Bod.bip 12 (by decide) dc_357_29 ?_
  refine Bod.ildnG dc_357_31 (by repeat (first | exact q1 | exact sm_get_p1 | exact sm_get_p2e | refine sm_get_p1m (by decide) (by decide) ?_ | refine sm_get_p1n (by decide) rfl ?_ | refine sm_get_p2n (by decide) (by decide) rfl ?_ | refine sm_get_p2m (by decide) (by decide) (by decide) ?_)) ?_
  refine Bod.mulN (12 * nm) (by omega) dc_357_32 ?_
  refine Bod.ildnG dc_357_33 (by repeat (first | exact q3 | exact sm_get_p1 | exact sm_get_p2e | refine sm_get_p1m (by decide) (by decide) ?_ | refine sm_get_p1n (by decide) rfl ?_ | refine sm_get_p2n (by decide) (by decide) rfl ?_ | refine sm_get_p2m (by decide) (by decide) (by decide) ?_)) ?_
  refine Bod.addN (12 * nm + ni) (by omega) dc_357_34 ?_
  refine Bod.baldN (N := N) (12 * nm + ni) rfl (by omega) (by omega) dc_357_35 (mk_isB (by first | exact hg1 | exact isK_S (by simp only [rIS, rJS, rAS, rLS, rVS, rQS, rS_hold]) hg1)) (Or.inl rfl) ?_
  refine Bod.aldnT dc_357_36 (by repeat (first | exact q2 | exact sm_get_p1 | exact sm_get_p2e | refine sm_get_p1m (by decide) (by decide) ?_ | refine sm_get_p1n (by decide) rfl ?_ | refine sm_get_p2n (by decide) (by decide) rfl ?_ | refine sm_get_p2m (by decide) (by decide) (by decide) ?_)) (by omega) ?_
  refine Bod.ildnG dc_357_37 (by repeat (first | exact q3 | exact sm_get_p1 | exact sm_get_p2e | refine sm_get_p1m (by decide) (by decide) ?_ | refine sm_get_p1n (by decide) rfl ?_ | refine sm_get_p2n (by decide) (by decide) rfl ?_ | refine sm_get_p2m (by decide) (by decide) (by decide) ?_)) ?_
  refine Bod.virtT (r := [_]) dc_357_38 kr_357_49 (Or.inl rfl) (by rw [np_6]; rfl) (by rw [np_6]; rfl) ht so_6 (Nat.le_of_ble_eq_true rfl) (c2  ) ?_
  show Bod _ _ _ _ [_, _] _ _ _
  refine Bod.icT dc_357_41 rfl (c2_eq_T w12) ?_
  refine Bod.incN (ni + 1) (by rw [kc_1, nI_add]) dc_357_46 (by rw [ml_357]; exact Nat.le_of_ble_eq_true rfl) (by repeat (first | exact q3 | exact sm_get_p1 | exact sm_get_p2e | refine sm_get_p1m (by decide) (by decide) ?_ | refine sm_get_p1n (by decide) rfl ?_ | refine sm_get_p2n (by decide) (by decide) rfl ?_ | refine sm_get_p2m (by decide) (by decide) (by decide) ?_)) ?_
  refine Bod.go dc_357_49 rfl ?_
  exact hB _ (by repeat (first | exact q0 | exact sm_get_p1 | exact sm_get_p2e | refine sm_get_p1m (by decide) (by decide) ?_ | refine sm_get_p1n (by decide) rfl ?_ | refine sm_get_p2n (by decide) (by decide) rfl ?_ | refine sm_get_p2m (by decide) (by decide) (by decide) ?_)) (by repeat (first | exact q1 | exact sm_get_p1 | exact sm_get_p2e | refine sm_get_p1m (by decide) (by decide) ?_ | refine sm_get_p1n (by decide) rfl ?_ | refine sm_get_p2n (by decide) (by decide) rfl ?_ | refine sm_get_p2m (by decide) (by decide) (by decide) ?_)) (by repeat (first | exact q2 | exact sm_get_p1 | exact sm_get_p2e | refine sm_get_p1m (by decide) (by decide) ?_ | refine sm_get_p1n (by decide) rfl ?_ | refine sm_get_p2n (by decide) (by decide) rfl ?_ | refine sm_get_p2m (by decide) (by decide) (by decide) ?_)) (by repeat (first | exact q0 | exact sm_get_p1 | exact sm_get_p2e | refine sm_get_p1m (by decide) (by decide) ?_ | refine sm_get_p1n (by decide) rfl ?_ | refine sm_get_p2n (by decide) (by decide) rfl ?_ | refine sm_get_p2m (by decide) (by decide) (by decide) ?_))
theorem rIsL_3 {d t : Nat} {S : cS} {lv : sm_L} {nm : Nat} {ni : Nat} {S1 : cS} {a : Nat} {r : Nat} {N : Nat} {S2 : cS} {a1 : Nat} (ht : t < 51) (q0 : sm_get lv 0 = some (.ref 61)) (q1 : sm_get lv 1 = some (.int (nI nm))) (q2 : sm_get lv 2 = some (.retAddr (2 * t))) (q3 : sm_get lv 3 = some (.int (nI ni))) (mnm : nm < 2 ^ 20) (mni : ni < 2 ^ 20) (ma : a < 2 ^ 20) (c1 : Ans (d + 8) 4 [.retAddr (2 * t)] S (some (.int (nI a))) S1) (b1 : ni < a) (hv1 : sV S1 (6100) = .ref r) (hg1 : isK S1 r 2 N) (mN : N < 2 ^ 20) (b2 : (12 * nm + ni) < N) (ma1 : a1 < 2 ^ 20) (c2 : Ans (d + 8) 6 [.retAddr (2 * t), .int (nI ni)] S1 (some (.int (nI a1))) S2) (w12 : sA S1 r (12 * nm + ni) ≠ nI a1) : Bod (d + 8) 357 17 lv [] S (some (.int 0)) (S2) := by
  refine Bod.ildnG dc_357_17 (by repeat (first | exact q3 | exact sm_get_p1 | exact sm_get_p2e | refine sm_get_p1m (by decide) (by decide) ?_ | refine sm_get_p1n (by decide) rfl ?_ | refine sm_get_p2n (by decide) (by decide) rfl ?_ | refine sm_get_p2m (by decide) (by decide) (by decide) ?_)) ?_
  refine Bod.aldnT dc_357_18 (by repeat (first | exact q2 | exact sm_get_p1 | exact sm_get_p2e | refine sm_get_p1m (by decide) (by decide) ?_ | refine sm_get_p1n (by decide) rfl ?_ | refine sm_get_p2n (by decide) (by decide) rfl ?_ | refine sm_get_p2m (by decide) (by decide) (by decide) ?_)) (by omega) ?_
  refine Bod.virtT (r := [_]) dc_357_19 kr_357_43 (Or.inl rfl) (by rw [np_4]; rfl) (by rw [np_4]; rfl) ht so_4 (Nat.le_of_ble_eq_true rfl) (c1  ) ?_
  show Bod _ _ _ _ [_, _] _ _ _
  refine Bod.icF dc_357_22 rfl (k2_ge_F ni a rfl rfl (by omega) (by omega)) ?_
  refine Bod.aldnG dc_357_25 (by repeat (first | exact q0 | exact sm_get_p1 | exact sm_get_p2e | refine sm_get_p1m (by decide) (by decide) ?_ | refine sm_get_p1n (by decide) rfl ?_ | refine sm_get_p2n (by decide) (by decide) rfl ?_ | refine sm_get_p2m (by decide) (by decide) (by decide) ?_)) ?_
  refine Bod.get dc_357_26 fr_357_11 (mk_61 _) rfl ?_
  refine Bod.eqV (.ref r) (by first | exact hv1 | (simp only [rIV, rJV, rAV, rLV, rQV, rV, reduceIte, Nat.reduceEqDiff]; exact hv1) | (simp only [rIV, rJV, rAV, rLV, rQV, rV]; repeat rw [if_neg (by omega)]; exact hv1)) ?_
  refine Bod.bip 12 (by decide) dc_357_29 ?_
  refine Bod.ildnG dc_357_31 (by repeat (first | exact q1 | exact sm_get_p1 | exact sm_get_p2e | refine sm_get_p1m (by decide) (by decide) ?_ | refine sm_get_p1n (by decide) rfl ?_ | refine sm_get_p2n (by decide) (by decide) rfl ?_ | refine sm_get_p2m (by decide) (by decide) (by decide) ?_)) ?_
  refine Bod.mulN (12 * nm) (by omega) dc_357_32 ?_
  refine Bod.ildnG dc_357_33 (by repeat (first | exact q3 | exact sm_get_p1 | exact sm_get_p2e | refine sm_get_p1m (by decide) (by decide) ?_ | refine sm_get_p1n (by decide) rfl ?_ | refine sm_get_p2n (by decide) (by decide) rfl ?_ | refine sm_get_p2m (by decide) (by decide) (by decide) ?_)) ?_
  refine Bod.addN (12 * nm + ni) (by omega) dc_357_34 ?_
  refine Bod.baldN (N := N) (12 * nm + ni) rfl (by omega) (by omega) dc_357_35 (mk_isB (by first | exact hg1 | exact isK_S (by simp only [rIS, rJS, rAS, rLS, rVS, rQS, rS_hold]) hg1)) (Or.inl rfl) ?_
  refine Bod.aldnT dc_357_36 (by repeat (first | exact q2 | exact sm_get_p1 | exact sm_get_p2e | refine sm_get_p1m (by decide) (by decide) ?_ | refine sm_get_p1n (by decide) rfl ?_ | refine sm_get_p2n (by decide) (by decide) rfl ?_ | refine sm_get_p2m (by decide) (by decide) (by decide) ?_)) (by omega) ?_
  refine Bod.ildnG dc_357_37 (by repeat (first | exact q3 | exact sm_get_p1 | exact sm_get_p2e | refine sm_get_p1m (by decide) (by decide) ?_ | refine sm_get_p1n (by decide) rfl ?_ | refine sm_get_p2n (by decide) (by decide) rfl ?_ | refine sm_get_p2m (by decide) (by decide) (by decide) ?_)) ?_
  refine Bod.virtT (r := [_]) dc_357_38 kr_357_49 (Or.inl rfl) (by rw [np_6]; rfl) (by rw [np_6]; rfl) ht so_6 (Nat.le_of_ble_eq_true rfl) (c2  ) ?_
  show Bod _ _ _ _ [_, _] _ _ _
  refine Bod.icF dc_357_41 rfl (c2_eq_F w12) ?_
  refine Bod.ic 0 (by decide) dc_357_44 ?_
  exact Bod.retZ dc_357_45 rt_357 (Or.inl rfl)
theorem rSy_1 {d t : Nat} {S Sf : cS} {v : Option Value} (ht : t < 51)   (hB : ∀ lv1 : sm_L, sm_get lv1 0 = some (.ref 61) → sm_get lv1 1 = some (.retAddr (2 * t)) → sm_get lv1 2 = some (.int (nI 0)) → Bod (d + 8) 384 2 lv1 [] (S) v Sf) : Bod (d + 8) 384 0 [(0, .ref 61), (1, .retAddr (2 * t))] [] S v Sf := by
  refine Bod.ic 0 (by decide) dc_384_0 ?_
  refine Bod.istn dc_384_1 (by rw [ml_384]; exact Nat.le_of_ble_eq_true rfl) ?_
  exact hB _ (by first | rfl | exact (by repeat (first | exact rfl | exact sm_get_p1 | exact sm_get_p2e | refine sm_get_p1m (by decide) (by decide) ?_ | refine sm_get_p1n (by decide) rfl ?_ | refine sm_get_p2n (by decide) (by decide) rfl ?_ | refine sm_get_p2m (by decide) (by decide) (by decide) ?_))) (by first | rfl | exact (by repeat (first | exact rfl | exact sm_get_p1 | exact sm_get_p2e | refine sm_get_p1m (by decide) (by decide) ?_ | refine sm_get_p1n (by decide) rfl ?_ | refine sm_get_p2n (by decide) (by decide) rfl ?_ | refine sm_get_p2m (by decide) (by decide) (by decide) ?_))) (by first | rfl | exact (by repeat (first | exact rfl | exact sm_get_p1 | exact sm_get_p2e | refine sm_get_p1m (by decide) (by decide) ?_ | refine sm_get_p1n (by decide) rfl ?_ | refine sm_get_p2n (by decide) (by decide) rfl ?_ | refine sm_get_p2m (by decide) (by decide) (by decide) ?_)))
theorem rSyL_1 {d t : Nat} {S : cS} {lv : sm_L} {ni : Nat} {S1 : cS} {a : Nat} (ht : t < 51) (q0 : sm_get lv 0 = some (.ref 61)) (q1 : sm_get lv 1 = some (.retAddr (2 * t))) (q2 : sm_get lv 2 = some (.int (nI ni))) (mni : ni < 2 ^ 20) (ma : a < 2 ^ 20) (c1 : Ans (d + 8) 4 [.retAddr (2 * t)] S (some (.int (nI a))) S1) (b1 : a ≤ ni) : Bod (d + 8) 384 2 lv [] S none (S1) := by
  refine Bod.ildnG dc_384_2 (by repeat (first | exact q2 | exact sm_get_p1 | exact sm_get_p2e | refine sm_get_p1m (by decide) (by decide) ?_ | refine sm_get_p1n (by decide) rfl ?_ | refine sm_get_p2n (by decide) (by decide) rfl ?_ | refine sm_get_p2m (by decide) (by decide) (by decide) ?_)) ?_
  refine Bod.aldnT dc_384_3 (by repeat (first | exact q1 | exact sm_get_p1 | exact sm_get_p2e | refine sm_get_p1m (by decide) (by decide) ?_ | refine sm_get_p1n (by decide) rfl ?_ | refine sm_get_p2n (by decide) (by decide) rfl ?_ | refine sm_get_p2m (by decide) (by decide) (by decide) ?_)) (by omega) ?_
  refine Bod.virtT (r := [_]) dc_384_4 kr_384_43 (Or.inl rfl) (by rw [np_4]; rfl) (by rw [np_4]; rfl) ht so_4 (Nat.le_of_ble_eq_true rfl) (c1  ) ?_
  show Bod _ _ _ _ [_, _] _ _ _
  refine Bod.icT dc_384_7 rfl (k2_ge_T ni a rfl rfl (by omega) (by omega)) ?_
  exact Bod.retV dc_384_25 rt_384
theorem rSyL_2 {d t : Nat} {S Sf : cS} {v : Option Value} {lv : sm_L} {ni : Nat} {S1 : cS} {a : Nat} {S2 : cS} {a1 : Nat} {S3 : cS} (ht : t < 51) (q0 : sm_get lv 0 = some (.ref 61)) (q1 : sm_get lv 1 = some (.retAddr (2 * t))) (q2 : sm_get lv 2 = some (.int (nI ni))) (mni : ni < 2 ^ 20) (ma : a < 2 ^ 20) (c1 : Ans (d + 8) 4 [.retAddr (2 * t)] S (some (.int (nI a))) S1) (b1 : ni < a) (ma1 : a1 < 2 ^ 20) (c2 : Ans (d + 8) 6 [.retAddr (2 * t), .int (nI ni)] S1 (some (.int (nI a1))) S2) (c3 : Ans (d + 8) 382 [.ref 61, .int (nI a1)] S2 none S3) (hB : ∀ lv1 : sm_L, sm_get lv1 0 = some (.ref 61) → sm_get lv1 1 = some (.retAddr (2 * t)) → sm_get lv1 2 = some (.int (nI (ni + 1))) → Bod (d + 8) 384 2 lv1 [] (S3) v Sf) : Bod (d + 8) 384 2 lv [] S v Sf := by
  refine Bod.ildnG dc_384_2 (by repeat (first | exact q2 | exact sm_get_p1 | exact sm_get_p2e | refine sm_get_p1m (by decide) (by decide) ?_ | refine sm_get_p1n (by decide) rfl ?_ | refine sm_get_p2n (by decide) (by decide) rfl ?_ | refine sm_get_p2m (by decide) (by decide) (by decide) ?_)) ?_
  refine Bod.aldnT dc_384_3 (by repeat (first | exact q1 | exact sm_get_p1 | exact sm_get_p2e | refine sm_get_p1m (by decide) (by decide) ?_ | refine sm_get_p1n (by decide) rfl ?_ | refine sm_get_p2n (by decide) (by decide) rfl ?_ | refine sm_get_p2m (by decide) (by decide) (by decide) ?_)) (by omega) ?_
  refine Bod.virtT (r := [_]) dc_384_4 kr_384_43 (Or.inl rfl) (by rw [np_4]; rfl) (by rw [np_4]; rfl) ht so_4 (Nat.le_of_ble_eq_true rfl) (c1  ) ?_
  show Bod _ _ _ _ [_, _] _ _ _
  refine Bod.icF dc_384_7 rfl (k2_ge_F ni a rfl rfl (by omega) (by omega)) ?_
  refine Bod.aldnG dc_384_10 (by repeat (first | exact q0 | exact sm_get_p1 | exact sm_get_p2e | refine sm_get_p1m (by decide) (by decide) ?_ | refine sm_get_p1n (by decide) rfl ?_ | refine sm_get_p2n (by decide) (by decide) rfl ?_ | refine sm_get_p2m (by decide) (by decide) (by decide) ?_)) ?_
  refine Bod.aldnT dc_384_11 (by repeat (first | exact q1 | exact sm_get_p1 | exact sm_get_p2e | refine sm_get_p1m (by decide) (by decide) ?_ | refine sm_get_p1n (by decide) rfl ?_ | refine sm_get_p2n (by decide) (by decide) rfl ?_ | refine sm_get_p2m (by decide) (by decide) (by decide) ?_)) (by omega) ?_
  refine Bod.ildnG dc_384_12 (by repeat (first | exact q2 | exact sm_get_p1 | exact sm_get_p2e | refine sm_get_p1m (by decide) (by decide) ?_ | refine sm_get_p1n (by decide) rfl ?_ | refine sm_get_p2n (by decide) (by decide) rfl ?_ | refine sm_get_p2m (by decide) (by decide) (by decide) ?_)) ?_
  refine Bod.virtT (r := [_]) dc_384_13 kr_384_49 (Or.inl rfl) (by rw [np_6]; rfl) (by rw [np_6]; rfl) ht so_6 (Nat.le_of_ble_eq_true rfl) (c2  ) ?_
  show Bod _ _ _ _ [_, _] _ _ _
  refine Bod.virt (r := []) dc_384_16 kr_384_818 ⟨Or.inl rfl, ow_382, cl_14⟩ (by rw [np_382]; rfl) (by rw [np_382]; rfl) (ob_of (mk_61 _)) (Nat.le_of_ble_eq_true rfl) (c3  ) ?_
  show Bod _ _ _ _ [] _ _ _
  refine Bod.incN (ni + 1) (by rw [kc_1, nI_add]) dc_384_19 (by rw [ml_384]; exact Nat.le_of_ble_eq_true rfl) (by repeat (first | exact q2 | exact sm_get_p1 | exact sm_get_p2e | refine sm_get_p1m (by decide) (by decide) ?_ | refine sm_get_p1n (by decide) rfl ?_ | refine sm_get_p2n (by decide) (by decide) rfl ?_ | refine sm_get_p2m (by decide) (by decide) (by decide) ?_)) ?_
  refine Bod.go dc_384_22 rfl ?_
  exact hB _ (by repeat (first | exact q0 | exact sm_get_p1 | exact sm_get_p2e | refine sm_get_p1m (by decide) (by decide) ?_ | refine sm_get_p1n (by decide) rfl ?_ | refine sm_get_p2n (by decide) (by decide) rfl ?_ | refine sm_get_p2m (by decide) (by decide) (by decide) ?_)) (by repeat (first | exact q1 | exact sm_get_p1 | exact sm_get_p2e | refine sm_get_p1m (by decide) (by decide) ?_ | refine sm_get_p1n (by decide) rfl ?_ | refine sm_get_p2n (by decide) (by decide) rfl ?_ | refine sm_get_p2m (by decide) (by decide) (by decide) ?_)) (by repeat (first | exact q0 | exact sm_get_p1 | exact sm_get_p2e | refine sm_get_p1m (by decide) (by decide) ?_ | refine sm_get_p1n (by decide) rfl ?_ | refine sm_get_p2n (by decide) (by decide) rfl ?_ | refine sm_get_p2m (by decide) (by decide) (by decide) ?_))
