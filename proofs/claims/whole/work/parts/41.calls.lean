/-! THE CALLS line, end, octet -/
theorem dc_269_0 : decode (sm_cc 269) 0 = .ok (.aload_n 0, 1) := by decide +kernel
theorem dc_269_1 : decode (sm_cc 269) 1 = .ok (.getfield 110, 3) := by decide +kernel
theorem fr_269_110 : sm_at mt_f (sm_ow 269) 110 = some (110, 11, 8, 0, 905) := by decide +kernel
theorem dc_269_4 : decode (sm_cc 269) 4 = .ok (.ireturn, 1) := by decide +kernel
theorem rt_269 : sm_rt 269 = some .int := by decide +kernel
theorem ml_269 : sm_ml 269 = 1 := by decide +kernel
theorem dc_421_0 : decode (sm_cc 421) 0 = .ok (.aload_n 0, 1) := by decide +kernel
theorem dc_421_1 : decode (sm_cc 421) 1 = .ok (.getfield 863, 3) := by decide +kernel
theorem fr_421_863 : sm_at mt_f (sm_ow 421) 863 = some (863, 14, 76, 0, 2149) := by decide +kernel
theorem dc_421_4 : decode (sm_cc 421) 4 = .ok (.ireturn, 1) := by decide +kernel
theorem rt_421 : sm_rt 421 = some .int := by decide +kernel
theorem ml_421 : sm_ml 421 = 1 := by decide +kernel
theorem dc_29_14 : decode (sm_cc 29) 14 = .ok (.aload_n 0, 1) := by decide +kernel
theorem dc_29_15 : decode (sm_cc 29) 15 = .ok (.iload_n 1, 1) := by decide +kernel
theorem dc_29_16 : decode (sm_cc 29) 16 = .ok (.putfield 81, 3) := by decide +kernel
theorem dc_29_19 : decode (sm_cc 29) 19 = .ok (.iload_n 1, 1) := by decide +kernel
theorem dc_29_20 : decode (sm_cc 29) 20 = .ok (.ireturn, 1) := by decide +kernel
theorem dc_283_16 : decode (sm_cc 283) 16 = .ok (.aload_n 0, 1) := by decide +kernel
theorem dc_283_17 : decode (sm_cc 283) 17 = .ok (.iload_n 1, 1) := by decide +kernel
theorem dc_283_18 : decode (sm_cc 283) 18 = .ok (.putfield 854, 3) := by decide +kernel
theorem dc_283_21 : decode (sm_cc 283) 21 = .ok (.iload_n 1, 1) := by decide +kernel
theorem dc_283_22 : decode (sm_cc 283) 22 = .ok (.ireturn, 1) := by decide +kernel
theorem dc_272_12 : decode (sm_cc 272) 12 = .ok (.iload_n 1, 1) := by decide +kernel
theorem dc_272_13 : decode (sm_cc 272) 13 = .ok (.sipush (4000), 3) := by decide +kernel
theorem dc_272_16 : decode (sm_cc 272) 16 = .ok (.if_icmp .ge (16), 3) := by decide +kernel
theorem dc_272_19 : decode (sm_cc 272) 19 = .ok (.aload_n 0, 1) := by decide +kernel
theorem dc_272_20 : decode (sm_cc 272) 20 = .ok (.getfield 27, 3) := by decide +kernel
theorem fr_272_27 : sm_at mt_f (sm_ow 272) 27 = some (27, 0, 4, 0, 793) := by decide +kernel
theorem dc_272_23 : decode (sm_cc 272) 23 = .ok (.iload_n 1, 1) := by decide +kernel
theorem dc_272_24 : decode (sm_cc 272) 24 = .ok (.baload, 1) := by decide +kernel
theorem dc_272_25 : decode (sm_cc 272) 25 = .ok (.sipush (255), 3) := by decide +kernel
theorem dc_272_28 : decode (sm_cc 272) 28 = .ok (.iand, 1) := by decide +kernel
theorem dc_272_29 : decode (sm_cc 272) 29 = .ok (.goto (4), 3) := by decide +kernel
theorem dc_270_5 : decode (sm_cc 270) 5 = .ok (.aload_n 0, 1) := by decide +kernel
theorem dc_270_6 : decode (sm_cc 270) 6 = .ok (.getfield 68, 3) := by decide +kernel
theorem dc_270_9 : decode (sm_cc 270) 9 = .ok (.invokevirtual 121, 3) := by decide +kernel
theorem ow_271 : 0 = sm_ow 271 := by decide +kernel
theorem kr_270_121 : sm_at mt_k (sm_ow 270) 121 = some (121, 1, 271, 1, 2016) := by decide +kernel
theorem np_271 : sm_np 271 = 0 := by decide +kernel
theorem dc_270_12 : decode (sm_cc 270) 12 = .ok (.goto (11), 3) := by decide +kernel
theorem dc_422_20 : decode (sm_cc 422) 20 = .ok (.iload_n 1, 1) := by decide +kernel
theorem dc_422_21 : decode (sm_cc 422) 21 = .ok (.ifCond .ge (10), 3) := by decide +kernel
theorem dc_422_31 : decode (sm_cc 422) 31 = .ok (.aload_n 0, 1) := by decide +kernel
theorem dc_422_32 : decode (sm_cc 422) 32 = .ok (.getfield 815, 3) := by decide +kernel
theorem fr_422_815 : sm_at mt_f (sm_ow 422) 815 = some (815, 14, 71, 0, 2144) := by decide +kernel
theorem dc_422_35 : decode (sm_cc 422) 35 = .ok (.iload_n 1, 1) := by decide +kernel
theorem dc_422_36 : decode (sm_cc 422) 36 = .ok (.baload, 1) := by decide +kernel
theorem dc_422_37 : decode (sm_cc 422) 37 = .ok (.sipush (255), 3) := by decide +kernel
theorem dc_422_40 : decode (sm_cc 422) 40 = .ok (.iand, 1) := by decide +kernel
theorem dc_422_41 : decode (sm_cc 422) 41 = .ok (.ireturn, 1) := by decide +kernel
theorem dc_422_24 : decode (sm_cc 422) 24 = .ok (.aload_n 0, 1) := by decide +kernel
theorem dc_422_25 : decode (sm_cc 422) 25 = .ok (.getfield 808, 3) := by decide +kernel
theorem dc_422_28 : decode (sm_cc 422) 28 = .ok (.goto (13), 3) := by decide +kernel
theorem in_yesA {d : Nat} {S : cS} {a b c : Int64} (h1 : ¬ a < b) (h2 : ¬ c < a) : Ans (d + 1) 284 [.long a, .long b, .long c] S (some (.int 1)) S := ⟨12, fun n hn => by
  obtain ⟨k, rfl⟩ : ∃ k, n = k + 12 := ⟨n - 12, by omega⟩
  exact in_yes h1 h2⟩
theorem lt32 {a b : Int32} : a.toInt64 < b.toInt64 ↔ a < b := ⟨cq_lowi, cq_low⟩
theorem line_c {d : Nat} {S : cS}   : Ans (d + 1) 269 [.ref 0] S (some (.int (sI S 8))) (S) := by
  refine Ans.of (by rw [ml_269]; exact Nat.le_of_ble_eq_true rfl) ?_
  refine Bod.go dc_269_0 rfl ?_
  refine Bod.get dc_269_1 fr_269_110 (mk_0 _) rfl ?_
  exact Bod.retI dc_269_4 rt_269
theorem line_r {d : Nat} {S : cS}   : Ans (d + 1) 421 [.ref 61] S (some (.int (sI S 6176))) (S) := by
  refine Ans.of (by rw [ml_421]; exact Nat.le_of_ble_eq_true rfl) ?_
  refine Bod.go dc_421_0 rfl ?_
  refine Bod.get dc_421_1 fr_421_863 (mk_61 _) rfl ?_
  exact Bod.retI dc_421_4 rt_421
theorem end_c {d : Nat} {S : cS} {t : Nat} {a : Nat} (ht : sI S 7 = nI t) (ha : a ≤ t) (hM : t ≤ 3000) : Ans (d + 1) 29 [.ref 0, .int (nI a)] S (some (.int (nI a))) (wI 7 (nI a) S) := by
  refine Ans.of (by rw [ml_29]; exact Nat.le_of_ble_eq_true rfl) ?_
  refine Bod.go dc_29_0 rfl ?_
  refine Bod.ifF dc_29_1 rfl (k1_lt_F a rfl (by omega)) ?_
  refine Bod.go dc_29_4 rfl ?_
  refine Bod.go dc_29_5 rfl ?_
  refine Bod.get dc_29_6 fr_29_81 (mk_0 _) rfl ?_
  refine Bod.eqI (nI t) (by first | assumption | rfl | exact congrArg nI (by omega) | (simp (disch := omega) only [rI, rIe, rA, rIA, rLA, rJA, rVI, rQI, rVA, rQA, upd_at,  rAI, rLI, rJI, nI_add, pk_sub, kc_0, kc_1, kc_2, kc_3, kc_4, kc_5, reduceIte, Nat.reduceEqDiff, Nat.add_zero, rI_hold, rI_hold, rL_hold, ht]; done)) ?_
  refine Bod.icT dc_29_9 rfl (k2_le_T a t rfl rfl (by omega) (by omega)) ?_
  refine Bod.go dc_29_14 rfl ?_
  refine Bod.go dc_29_15 rfl ?_
  refine Bod.put dc_29_16 fr_29_81 (mk_0 _) (Nat.le_of_ble_eq_true rfl) pf_11_7 (st_7 _ _) (mu_I _ _ _) ?_
  refine Bod.go dc_29_19 rfl ?_
  exact Bod.retI dc_29_20 rt_29
theorem end_r {d : Nat} {S : cS} {t : Nat} {a : Nat} (ht : sI S 6175 = nI t) (ha : a ≤ t) (hM : t ≤ 3000) : Ans (d + 2) 283 [.ref 61, .int (nI a)] S (some (.int (nI a))) (wI 6175 (nI a) S) := by
  refine Ans.of (by rw [ml_283]; exact Nat.le_of_ble_eq_true rfl) ?_
  refine Bod.go dc_283_0 rfl ?_
  refine Bod.go dc_283_1 rfl ?_
  refine Bod.go dc_283_2 rfl ?_
  refine Bod.go dc_283_3 rfl ?_
  refine Bod.get dc_283_4 fr_283_854 (mk_61 _) rfl ?_
  refine Bod.eqI (nI t) (by first | assumption | rfl | exact congrArg nI (by omega) | (simp (disch := omega) only [rI, rIe, rA, rIA, rLA, rJA, rVI, rQI, rVA, rQA, upd_at,  rAI, rLI, rJI, nI_add, pk_sub, kc_0, kc_1, kc_2, kc_3, kc_4, kc_5, reduceIte, Nat.reduceEqDiff, Nat.add_zero, rI_hold, rI_hold, rL_hold, ht]; done)) ?_
  refine Bod.go dc_283_7 rfl ?_
  refine Bod.stat (r := []) dc_283_8 kr_283_680 (Or.inl rfl) (by rw [np_284]; rfl) (by rw [np_284]; rfl) (by rw [np_284]; exact Nat.le_of_ble_eq_true rfl) (Nat.le_of_ble_eq_true rfl) (in_yesA  (by rw [nI_l (by omega)]; exact fun h => absurd ((lN_lt (a := a) (b := 0) (by omega) (by decide)).mp h) (by omega)) (fun h => nI_nlt (a := t) (b := a) ha (by omega) (lt32.mp h))) ?_
  show Bod _ _ _ _ [_] _ _ _
  refine Bod.ifT dc_283_11 rfl (k1_ne_T (k_ne 1 0 rfl rfl (by omega) (by omega) (by omega))) ?_
  refine Bod.go dc_283_16 rfl ?_
  refine Bod.go dc_283_17 rfl ?_
  refine Bod.put dc_283_18 fr_283_854 (mk_61 _) (Nat.le_of_ble_eq_true rfl) pf_14_75 (st_6175 _ _) (mu_I _ _ _) ?_
  refine Bod.go dc_283_21 rfl ?_
  exact Bod.retI dc_283_22 rt_283
theorem end_no {d : Nat} {S : cS} {a : Int32} {t : Nat} (ht : sI S 7 = nI t) (h : a < 0 ∨ nI t < a) : Ans (d + 1) 29 [.ref 0, .int a] S (some (.int (-1))) S := ⟨20, fun n hn => by
  obtain ⟨k, rfl⟩ : ∃ k, n = k + 20 := ⟨n - 20, by omega⟩
  exact ce_no (t := nI t) (by unfold sx_fd; rw [mk_0]; simp only [if_true]; exact congrArg (fun z => some (Value.int z)) ht) h⟩
theorem end_nr {d : Nat} {S : cS} {a : Int32} {t : Nat} (ht : sI S 6175 = nI t) (h : a < 0 ∨ nI t < a) : Ans (d + 2) 283 [.ref 61, .int a] S (some (.int (-1))) S := ⟨20, fun n hn => by
  obtain ⟨k, rfl⟩ : ∃ k, n = k + 20 := ⟨n - 20, by omega⟩
  exact re_no (t := nI t) (by unfold sx_fd; rw [mk_61]; simp only [if_true]; exact congrArg (fun z => some (Value.int z)) ht) h⟩
/-- line: both have the same latest line -/
theorem line_St {Inv : Nat → cS → Prop} {k : Nat} {S : cS} (h : sI S 6176 = sI S 8) (hI : Inv (k + 1) S) : c_St Inv k S 269 421 [] := ⟨sI S 8, S, S, line_c, by rw [← h]; exact line_r, hI⟩
/-- end: both tapes have t bytes -/
theorem end_St {Inv : Nat → cS → Prop} {k t : Nat} {S : cS} {a : Int32} (h1 : sI S 7 = nI t) (h2 : sI S 6175 = nI t) (hM : t ≤ 3000) (hI : Inv (k + 1) S) (hI2 : ∀ q, q ≤ t → Inv (k + 1) (wI 6175 (nI q) (wI 7 (nI q) S))) : c_St Inv k S 29 283 [.int a] := by
  by_cases h : a < 0 ∨ nI t < a
  · exact ⟨-1, S, S, end_no h1 h, end_nr h2 h, hI⟩
  · obtain ⟨q, hq, rfl⟩ := nI_of (x := a) (fun h3 => h (Or.inl h3))
    have hqt : q ≤ t := by
      have h4 : ¬ nI t < nI q := fun h3 => h (Or.inr h3)
      have h5 : ¬ t < q := fun h6 => h4 (nI_lt h6 hq)
      omega
    exact ⟨nI q, wI 7 (nI q) S, wI 6175 (nI q) (wI 7 (nI q) S), end_c h1 hqt hM, end_r ((rIn _ _ (by decide)).trans h2) hqt hM, hI2 q hqt⟩
theorem outByte_c {d : Nat} {S : cS} {o : Nat} {i : Nat} (ho : sI S 4906 = nI o) (hi : i < o) (hM : o ≤ 4000) : Ans (d + 1) 272 [.ref 49, .int (nI i)] S (some (.int ((sA S 50 i) &&& (nI 255)))) (S) := by
  refine Ans.of (by rw [ml_272]; exact Nat.le_of_ble_eq_true rfl) ?_
  refine Bod.go dc_272_0 rfl ?_
  refine Bod.ifF dc_272_1 rfl (k1_lt_F i rfl (by omega)) ?_
  refine Bod.go dc_272_4 rfl ?_
  refine Bod.go dc_272_5 rfl ?_
  refine Bod.get dc_272_6 fr_272_34 (mk_49 _) rfl ?_
  refine Bod.eqI (nI o) (by first | assumption | rfl | exact congrArg nI (by omega) | (simp (disch := omega) only [rI, rIe, rA, rIA, rLA, rJA, rVI, rQI, rVA, rQA, upd_at,  rAI, rLI, rJI, nI_add, pk_sub, kc_0, kc_1, kc_2, kc_3, kc_4, kc_5, reduceIte, Nat.reduceEqDiff, Nat.add_zero, rI_hold, rI_hold, rL_hold, ho]; done)) ?_
  refine Bod.icF dc_272_9 rfl (k2_ge_F i o rfl rfl (by omega) (by omega)) ?_
  refine Bod.go dc_272_12 rfl ?_
  refine Bod.sip 4000 (by decide) dc_272_13 ?_
  refine Bod.icF dc_272_16 rfl (k2_ge_F i 4000 rfl rfl (by omega) (by omega)) ?_
  refine Bod.go dc_272_19 rfl ?_
  refine Bod.get dc_272_20 fr_272_27 (mk_49 _) rfl ?_
  refine Bod.go dc_272_23 rfl ?_
  refine Bod.baldN i rfl (by omega) (by omega) dc_272_24 (mk_50 _) (Or.inl rfl) ?_
  refine Bod.sip 255 (by decide) dc_272_25 ?_
  refine Bod.go dc_272_28 rfl ?_
  refine Bod.go dc_272_29 rfl ?_
  exact Bod.retI dc_272_33 rt_272
theorem octet_c {d : Nat} {S : cS} {o : Nat} {i : Nat} (ho : sI S 4906 = nI o) (hi : i < o) (hM : o ≤ 4000) : Ans (d + 2) 270 [.ref 0, .int (nI i)] S (some (.int ((sA S 50 i) &&& (nI 255)))) (S) := by
  refine Ans.of (by rw [ml_270]; exact Nat.le_of_ble_eq_true rfl) ?_
  refine Bod.go dc_270_0 rfl ?_
  refine Bod.go dc_270_1 rfl ?_
  refine Bod.icT dc_270_2 rfl (k2_ne_T (nI_nm1 (by omega))) ?_
  refine Bod.go dc_270_15 rfl ?_
  refine Bod.get dc_270_16 fr_270_68 (mk_0 _) rfl ?_
  refine Bod.go dc_270_19 rfl ?_
  refine Bod.virt (r := []) dc_270_20 kr_270_124 ⟨Or.inr rfl, ow_272, cl_0⟩ (by rw [np_272]; rfl) (by rw [np_272]; rfl) (ob_of (mk_49 _)) (Nat.le_of_ble_eq_true rfl) (outByte_c (o := o) (i := i) (by first | assumption | rfl | exact congrArg nI (by omega) | (simp (disch := omega) only [rI, rIe, rA, rIA, rLA, rJA, rVI, rQI, rVA, rQA, upd_at,  rAI, rLI, rJI, nI_add, pk_sub, kc_0, kc_1, kc_2, kc_3, kc_4, kc_5, reduceIte, Nat.reduceEqDiff, Nat.add_zero, rI_hold, rI_hold, rL_hold, ho]; done)) (by omega) (by omega)) ?_
  show Bod _ _ _ _ [_] _ _ _
  exact Bod.retI dc_270_23 rt_270
theorem octet_lc {d : Nat} {S : cS} {a : Int32} (h : a = Int32.ofInt (-1)) : Ans (d + 2) 270 [.ref 0, .int a] S (some (.int (sI S 4906))) (S) := by
  refine Ans.of (by rw [ml_270]; exact Nat.le_of_ble_eq_true rfl) ?_
  refine Bod.go dc_270_0 rfl ?_
  refine Bod.go dc_270_1 rfl ?_
  refine Bod.icF dc_270_2 rfl (k2_ne_F h) ?_
  refine Bod.go dc_270_5 rfl ?_
  refine Bod.get dc_270_6 fr_270_68 (mk_0 _) rfl ?_
  refine Bod.virt (r := []) dc_270_9 kr_270_121 ⟨Or.inr rfl, ow_271, cl_0⟩ (by rw [np_271]; rfl) (by rw [np_271]; rfl) (ob_of (mk_49 _)) (Nat.le_of_ble_eq_true rfl) (outLength_ev  ) ?_
  show Bod _ _ _ _ [_] _ _ _
  refine Bod.go dc_270_12 rfl ?_
  exact Bod.retI dc_270_23 rt_270
theorem octet_r {d : Nat} {S : cS} {o : Nat} {i : Nat} (ho : sI S 6172 = nI o) (hi : i < o) (hM : o ≤ 4000) : Ans (d + 2) 422 [.ref 61, .int (nI i)] S (some (.int ((sA S 106 i) &&& (nI 255)))) (S) := by
  refine Ans.of (by rw [ml_422]; exact Nat.le_of_ble_eq_true rfl) ?_
  refine Bod.go dc_422_0 rfl ?_
  refine Bod.go dc_422_1 rfl ?_
  refine Bod.ldc2 dc_422_2 cj_422_744 ?_
  refine Bod.go dc_422_5 rfl ?_
  refine Bod.get dc_422_6 fr_422_808 (mk_61 _) rfl ?_
  refine Bod.ic 1 (by decide) dc_422_9 ?_
  refine Bod.go dc_422_10 rfl ?_
  refine Bod.go dc_422_11 rfl ?_
  refine Bod.stat (r := []) dc_422_12 kr_422_680 (Or.inl rfl) (by rw [np_284]; rfl) (by rw [np_284]; rfl) (by rw [np_284]; exact Nat.le_of_ble_eq_true rfl) (Nat.le_of_ble_eq_true rfl) (in_yesA  (by rw [nI_l (by omega)]; exact fun h => absurd (Int64.lt_iff_toInt_lt.mp h) (by rw [lN_toInt (by omega), show (-1 : Int64).toInt = -1 by decide]; omega)) (by rw [ho, pk_sub (by omega)]; exact fun h => nI_nlt (a := o - 1) (b := i) (by omega) (by omega) (lt32.mp h))) ?_
  show Bod _ _ _ _ [_] _ _ _
  refine Bod.ifT dc_422_15 rfl (k1_ne_T (k_ne 1 0 rfl rfl (by omega) (by omega) (by omega))) ?_
  refine Bod.go dc_422_20 rfl ?_
  refine Bod.ifT dc_422_21 rfl (k1_ge_T i rfl (by omega)) ?_
  refine Bod.go dc_422_31 rfl ?_
  refine Bod.get dc_422_32 fr_422_815 (mk_61 _) rfl ?_
  refine Bod.go dc_422_35 rfl ?_
  refine Bod.baldN i rfl (by omega) (by omega) dc_422_36 (mk_106 _) (Or.inl rfl) ?_
  refine Bod.sip 255 (by decide) dc_422_37 ?_
  refine Bod.go dc_422_40 rfl ?_
  exact Bod.retI dc_422_41 rt_422
theorem m1_le {o : Nat} (h : o ≤ 4000) : ¬ (nI o - nI 1).toInt64 < (Int32.ofInt (-1)).toInt64 := fun h1 => by
  have h2 := lt32.mp h1
  by_cases h0 : o = 0
  · subst h0
    exact absurd h2 (by decide)
  · rw [pk_sub (by omega)] at h2
    have h3 := Int32.lt_iff_toInt_lt.mp h2
    rw [nI_toInt (by omega), show (Int32.ofInt (-1)).toInt = -1 by decide] at h3
    omega
theorem octet_lr {d : Nat} {S : cS} {a : Int32} {o : Nat} (ha : a = Int32.ofInt (-1)) (ho : sI S 6172 = nI o) (hM : o ≤ 4000) : Ans (d + 2) 422 [.ref 61, .int a] S (some (.int (sI S 6172))) (S) := by
  refine Ans.of (by rw [ml_422]; exact Nat.le_of_ble_eq_true rfl) ?_
  refine Bod.go dc_422_0 rfl ?_
  refine Bod.go dc_422_1 rfl ?_
  refine Bod.ldc2 dc_422_2 cj_422_744 ?_
  refine Bod.go dc_422_5 rfl ?_
  refine Bod.get dc_422_6 fr_422_808 (mk_61 _) rfl ?_
  refine Bod.ic 1 (by decide) dc_422_9 ?_
  refine Bod.go dc_422_10 rfl ?_
  refine Bod.go dc_422_11 rfl ?_
  refine Bod.stat (r := []) dc_422_12 kr_422_680 (Or.inl rfl) (by rw [np_284]; rfl) (by rw [np_284]; rfl) (by rw [np_284]; exact Nat.le_of_ble_eq_true rfl) (Nat.le_of_ble_eq_true rfl) (in_yesA  (by rw [ha]; decide) (by rw [ha, ho]; exact m1_le hM)) ?_
  show Bod _ _ _ _ [_] _ _ _
  refine Bod.ifT dc_422_15 rfl (k1_ne_T (k_ne 1 0 rfl rfl (by omega) (by omega) (by omega))) ?_
  refine Bod.go dc_422_20 rfl ?_
  refine Bod.ifF dc_422_21 rfl (by rw [ha]; decide) ?_
  refine Bod.go dc_422_24 rfl ?_
  refine Bod.get dc_422_25 fr_422_808 (mk_61 _) rfl ?_
  refine Bod.go dc_422_28 rfl ?_
  exact Bod.retI dc_422_41 rt_422
theorem octet_nc {d : Nat} {S : cS} {a : Int32} {o : Nat} (ho : sI S 4906 = nI o) (h0 : a ≠ -1) (h : a < 0 ∨ nI o ≤ a) : Ans (d + 2) 270 [.ref 0, .int a] S (some (.int (-1))) S := ⟨20, fun n hn => by
  obtain ⟨k, rfl⟩ : ∃ k, n = k + 20 := ⟨n - 20, by omega⟩
  exact co_no (b := 49) (t := nI o) (by unfold sx_fd; rw [mk_0]; rfl) (ob_of (mk_49 _)) (by unfold sx_fd; rw [mk_49]; simp only [if_true]; exact congrArg (fun z => some (Value.int z)) ho) h0 h⟩
theorem octet_nr {d : Nat} {S : cS} {a : Int32} {o : Nat} (ho : sI S 6172 = nI o) (h : a < -1 ∨ nI o - 1 < a) : Ans (d + 2) 422 [.ref 61, .int a] S (some (.int (-1))) S := ⟨20, fun n hn => by
  obtain ⟨k, rfl⟩ : ∃ k, n = k + 20 := ⟨n - 20, by omega⟩
  exact ro_no (t := nI o) (by unfold sx_fd; rw [mk_61]; simp only [if_true]; exact congrArg (fun z => some (Value.int z)) ho) h⟩
/-- octet: both printed the same o bytes -/
theorem octet_St {Inv : Nat → cS → Prop} {k o : Nat} {S : cS} {a : Int32} (h1 : sI S 4906 = nI o) (h2 : sI S 6172 = nI o) (hM : o ≤ 4000) (hb : ∀ i, i < o → sA S 50 i &&& nI 255 = sA S 106 i &&& nI 255) (hI : Inv (k + 1) S) : c_St Inv k S 270 422 [.int a] := by
  by_cases h0 : a = -1
  · refine ⟨nI o, S, S, ?_, ?_, hI⟩
    · rw [← h1]
      exact octet_lc h0
    · rw [← h2]
      exact octet_lr h0 h2 hM
  · by_cases h : a < 0 ∨ nI o ≤ a
    · refine ⟨-1, S, S, octet_nc h1 h0 h, octet_nr h2 ?_, hI⟩
      have e1 : (-1 : Int32).toInt = -1 := by decide
      have e0 : (0 : Int32).toInt = 0 := by decide
      have e3 : a.toInt ≠ -1 := fun h5 => h0 (Int32.toInt_inj.mp (h5.trans e1.symm))
      rcases h with h | h
      · refine Or.inl (Int32.lt_iff_toInt_lt.mpr ?_)
        have h4 := Int32.lt_iff_toInt_lt.mp h
        omega
      · by_cases ho : o = 0
        · subst ho
          by_cases hl : a < -1
          · exact Or.inl hl
          · refine Or.inr (Int32.lt_iff_toInt_lt.mpr ?_)
            have h4 : ¬ a.toInt < (-1 : Int32).toInt := fun h5 => hl (Int32.lt_iff_toInt_lt.mpr h5)
            rw [show (nI 0 - 1 : Int32).toInt = -1 by decide]
            omega
        · refine Or.inr (Int32.lt_iff_toInt_lt.mpr ?_)
          have h4 := Int32.le_iff_toInt_le.mp h
          rw [nI_toInt (by omega)] at h4
          rw [show nI o - 1 = nI (o - 1) from pk_sub (b := 1) (by omega), nI_toInt (by omega)]
          omega
    · obtain ⟨q, hq, rfl⟩ := nI_of (x := a) (fun h3 => h (Or.inl h3))
      have hqo : q < o := by
        have h4 : ¬ nI o ≤ nI q := fun h3 => h (Or.inr h3)
        have h5 : ¬ o ≤ q := fun h6 => h4 (nI_le h6 hq)
        omega
      refine ⟨sA S 50 q &&& nI 255, S, S, octet_c h1 hqo hM, ?_, hI⟩
      rw [hb q hqo]
      exact octet_r h2 hqo hM
