/-! READING A NUMBER -/
theorem dc_45_14 : decode (sm_cc 45) 14 = .ok (.aload_n 0, 1) := by decide +kernel
theorem dc_45_15 : decode (sm_cc 45) 15 = .ok (.getfield 23, 3) := by decide +kernel
theorem fr_45_23 : sm_at mt_f (sm_ow 45) 23 = some (23, 3, 3, 0, 593) := by decide +kernel
theorem dc_45_18 : decode (sm_cc 45) 18 = .ok (.aload_n 0, 1) := by decide +kernel
theorem dc_45_19 : decode (sm_cc 45) 19 = .ok (.getfield 19, 3) := by decide +kernel
theorem fr_45_19 : sm_at mt_f (sm_ow 45) 19 = some (19, 3, 2, 0, 592) := by decide +kernel
theorem dc_45_22 : decode (sm_cc 45) 22 = .ok (.if_icmp .ge (76), 3) := by decide +kernel
theorem dc_45_25 : decode (sm_cc 45) 25 = .ok (.iload_n 1, 1) := by decide +kernel
theorem dc_45_26 : decode (sm_cc 45) 26 = .ok (.invokestatic 70, 3) := by decide +kernel
theorem kr_45_70 : sm_at mt_k (sm_ow 45) 70 = some (70, 3, 43, 1, 989) := by decide +kernel
theorem dc_45_29 : decode (sm_cc 45) 29 = .ok (.ifCond .eq (69), 3) := by decide +kernel
theorem dc_45_32 : decode (sm_cc 45) 32 = .ok (.aload_n 0, 1) := by decide +kernel
theorem dc_45_33 : decode (sm_cc 45) 33 = .ok (.getfield 102, 3) := by decide +kernel
theorem fr_45_102 : sm_at mt_f (sm_ow 45) 102 = some (102, 3, 10, 0, 607) := by decide +kernel
theorem dc_45_36 : decode (sm_cc 45) 36 = .ok (.ldc2_w 106, 3) := by decide +kernel
theorem cj_45_106 : sm_at mt_cj (sm_ow 45) 106 = some (106, (9223372036854775807), 1003) := by decide +kernel
theorem dc_45_39 : decode (sm_cc 45) 39 = .ok (.iload_n 1, 1) := by decide +kernel
theorem dc_45_40 : decode (sm_cc 45) 40 = .ok (.bipush (48), 2) := by decide +kernel
theorem dc_45_42 : decode (sm_cc 45) 42 = .ok (.isub, 1) := by decide +kernel
theorem dc_45_43 : decode (sm_cc 45) 43 = .ok (.i2l, 1) := by decide +kernel
theorem dc_45_44 : decode (sm_cc 45) 44 = .ok (.lsub, 1) := by decide +kernel
theorem dc_45_45 : decode (sm_cc 45) 45 = .ok (.ldc2_w 108, 3) := by decide +kernel
theorem cj_45_108 : sm_at mt_cj (sm_ow 45) 108 = some (108, (10), 1004) := by decide +kernel
theorem dc_45_48 : decode (sm_cc 45) 48 = .ok (.ldiv, 1) := by decide +kernel
theorem dc_45_49 : decode (sm_cc 45) 49 = .ok (.lcmp, 1) := by decide +kernel
theorem dc_45_50 : decode (sm_cc 45) 50 = .ok (.ifCond .le (8), 3) := by decide +kernel
theorem dc_45_58 : decode (sm_cc 45) 58 = .ok (.aload_n 0, 1) := by decide +kernel
theorem dc_45_59 : decode (sm_cc 45) 59 = .ok (.aload_n 0, 1) := by decide +kernel
theorem dc_45_60 : decode (sm_cc 45) 60 = .ok (.getfield 102, 3) := by decide +kernel
theorem dc_45_63 : decode (sm_cc 45) 63 = .ok (.ldc2_w 108, 3) := by decide +kernel
theorem dc_45_66 : decode (sm_cc 45) 66 = .ok (.lmul, 1) := by decide +kernel
theorem dc_45_67 : decode (sm_cc 45) 67 = .ok (.iload_n 1, 1) := by decide +kernel
theorem dc_45_68 : decode (sm_cc 45) 68 = .ok (.bipush (48), 2) := by decide +kernel
theorem dc_45_70 : decode (sm_cc 45) 70 = .ok (.isub, 1) := by decide +kernel
theorem dc_45_71 : decode (sm_cc 45) 71 = .ok (.i2l, 1) := by decide +kernel
theorem dc_45_72 : decode (sm_cc 45) 72 = .ok (.ladd, 1) := by decide +kernel
theorem dc_45_73 : decode (sm_cc 45) 73 = .ok (.putfield 102, 3) := by decide +kernel
theorem dc_45_76 : decode (sm_cc 45) 76 = .ok (.aload_n 0, 1) := by decide +kernel
theorem dc_45_77 : decode (sm_cc 45) 77 = .ok (.dup, 1) := by decide +kernel
theorem dc_45_78 : decode (sm_cc 45) 78 = .ok (.getfield 23, 3) := by decide +kernel
theorem dc_45_81 : decode (sm_cc 45) 81 = .ok (.iconst 1, 1) := by decide +kernel
theorem dc_45_82 : decode (sm_cc 45) 82 = .ok (.iadd, 1) := by decide +kernel
theorem dc_45_83 : decode (sm_cc 45) 83 = .ok (.putfield 23, 3) := by decide +kernel
theorem dc_45_86 : decode (sm_cc 45) 86 = .ok (.aload_n 0, 1) := by decide +kernel
theorem dc_45_87 : decode (sm_cc 45) 87 = .ok (.aload_n 0, 1) := by decide +kernel
theorem dc_45_88 : decode (sm_cc 45) 88 = .ok (.getfield 23, 3) := by decide +kernel
theorem dc_45_91 : decode (sm_cc 45) 91 = .ok (.invokevirtual 50, 3) := by decide +kernel
theorem kr_45_50 : sm_at mt_k (sm_ow 45) 50 = some (50, 0, 38, 0, 969) := by decide +kernel
theorem dc_45_94 : decode (sm_cc 45) 94 = .ok (.istore_n 1, 1) := by decide +kernel
theorem ml_45 : sm_ml 45 = 2 := by decide +kernel
theorem dc_45_95 : decode (sm_cc 45) 95 = .ok (.goto (-81), 3) := by decide +kernel
theorem dc_45_98 : decode (sm_cc 45) 98 = .ok (.aload_n 0, 1) := by decide +kernel
theorem dc_45_99 : decode (sm_cc 45) 99 = .ok (.iconst 4, 1) := by decide +kernel
theorem dc_45_100 : decode (sm_cc 45) 100 = .ok (.putfield 38, 3) := by decide +kernel
theorem fr_45_38 : sm_at mt_f (sm_ow 45) 38 = some (38, 3, 5, 0, 597) := by decide +kernel
theorem dc_45_103 : decode (sm_cc 45) 103 = .ok (.return_, 1) := by decide +kernel
theorem rt_45 : sm_rt 45 = none := by decide +kernel
/-- the number that m digits from p on are -/
def c_dv (S : cS) (p : Nat) : Nat → Nat
  | 0 => 0
  | m + 1 => 10 * c_dv S p m + (c_byte S (p + m) - 48)
theorem wJ_wJ (k : Nat) (x y : Int64) (S : cS) : wJ k x (wJ k y S) = wJ k x S := by
  have e : vp_updL (vp_updL (sJ S) k y) k x = vp_updL (sJ S) k x := funext (fun i => by
    show (if i = k then x else (if i = k then y else sJ S i)) = (if i = k then x else sJ S i)
    split <;> rfl)
  show (S.1, vp_updL (vp_updL (sJ S) k y) k x, S.2.2) = (S.1, vp_updL (sJ S) k x, S.2.2)
  rw [e]
theorem wI_wJ (k q : Nat) (x : Int32) (y : Int64) (S : cS) : wI k x (wJ q y S) = wJ q y (wI k x S) := rfl
theorem c_dig_le {b : Nat} (h : c_dig b = true) : 48 ≤ b ∧ b ≤ 57 := by
  unfold c_dig at h
  simp only [Bool.and_eq_true, Nat.ble_eq] at h
  exact h
theorem readNumber_next {d n p m w : Nat} {S : cS} {v : Nat} {x : Option Value} {Sf : cS} (hM : n ≤ 3000) (hn : sI S 3102 = nI n) (hp : sI S 3103 = nI (p + m)) (hv : sJ S 3110 = lN v) (hin : p + m < n) (hdg : c_dig (c_byte S (p + m)) = true) (hle : v ≤ (9223372036854775855 - c_byte S (p + m)) / 10) (hw : 10 * v + c_byte S (p + m) - 48 = w) (hB : Bod (d + 2) 45 14 [(1, .int (c_b S n (p + m + 1))), (0, .ref 31)] [] (wI 3103 (nI (p + m + 1)) (wJ 3110 (lN (w)) S)) x Sf) : Bod (d + 2) 45 14 [(1, .int (c_b S n (p + m))), (0, .ref 31)] [] S x Sf := by
  obtain ⟨b, hb⟩ : ∃ b, c_byte S (p + m) = b := ⟨_, rfl⟩
  rw [hb] at hdg hle hw
  have hb5 : c_b S n (p + m) = nI b := by
    unfold c_b
    rw [if_pos hin, hb]
  have hD := hdg
  have hbl := c_dig_le hdg
  subst hw
  refine Bod.go dc_45_14 rfl ?_
  refine Bod.get dc_45_15 fr_45_23 (mk_31 _) rfl ?_
  refine Bod.eqI (nI (p + m)) (by first | assumption | rfl | exact congrArg nI (by omega) | (simp (disch := omega) only [rI, rIe, rA, rIA, rLA, rJA, rVI, rQI, rVA, rQA, upd_at,  rAI, rLI, rJI, nI_add, pk_sub, kc_0, kc_1, kc_2, kc_3, kc_4, kc_5, reduceIte, Nat.reduceEqDiff, Nat.add_zero, rI_hold, rI_hold, rL_hold, hn, hp]; done)) ?_
  refine Bod.go dc_45_18 rfl ?_
  refine Bod.get dc_45_19 fr_45_19 (mk_31 _) rfl ?_
  refine Bod.eqI (nI n) (by first | assumption | rfl | exact congrArg nI (by omega) | (simp (disch := omega) only [rI, rIe, rA, rIA, rLA, rJA, rVI, rQI, rVA, rQA, upd_at,  rAI, rLI, rJI, nI_add, pk_sub, kc_0, kc_1, kc_2, kc_3, kc_4, kc_5, reduceIte, Nat.reduceEqDiff, Nat.add_zero, rI_hold, rI_hold, rL_hold, hn, hp]; done)) ?_
  refine Bod.icF dc_45_22 rfl (k2_ge_F (p + m) n rfl rfl (by omega) (by omega)) ?_
  refine Bod.go dc_45_25 rfl ?_
  refine Bod.eqI (nI b) hb5 ?_
  refine Bod.stat (r := []) dc_45_26 kr_45_70 (Or.inr rfl) (by rw [np_43]; rfl) (by rw [np_43]; rfl) (by rw [np_43]; exact Nat.le_of_ble_eq_true rfl) (Nat.le_of_ble_eq_true rfl) (isDigit_T (b := b) hD) ?_
  show Bod _ _ _ _ [_] _ _ _
  refine Bod.ifF dc_45_29 rfl (k1_eq_F (k_ne 1 0 rfl rfl (by omega) (by omega) (by omega))) ?_
  refine Bod.go dc_45_32 rfl ?_
  refine Bod.get dc_45_33 fr_45_102 (mk_31 _) rfl ?_
  refine Bod.eqJ (lN v) hv ?_
  refine Bod.ldc2N 9223372036854775807 rfl dc_45_36 cj_45_106 ?_
  refine Bod.go dc_45_39 rfl ?_
  refine Bod.eqI (nI b) hb5 ?_
  refine Bod.bip 48 (by decide) dc_45_40 ?_
  refine Bod.subN (b - 48) (by omega) (by omega) dc_45_42 ?_
  refine Bod.i2lN (by omega) dc_45_43 ?_
  refine Bod.lsubN (9223372036854775855 - b) (by omega) (by omega) dc_45_44 ?_
  refine Bod.ldc2N 10 rfl dc_45_45 cj_45_108 ?_
  refine Bod.ldivN ((9223372036854775855 - b) / 10) (by omega) (by omega) (by omega) (by omega) dc_45_48 ?_
  refine Bod.go dc_45_49 rfl ?_
  refine Bod.ifT dc_45_50 rfl (cmpN_le hle (by omega)) ?_
  refine Bod.go dc_45_58 rfl ?_
  refine Bod.go dc_45_59 rfl ?_
  refine Bod.get dc_45_60 fr_45_102 (mk_31 _) rfl ?_
  refine Bod.eqJ (lN v) hv ?_
  refine Bod.ldc2N 10 rfl dc_45_63 cj_45_108 ?_
  refine Bod.lmulN (10 * v) (by omega) dc_45_66 ?_
  refine Bod.go dc_45_67 rfl ?_
  refine Bod.eqI (nI b) hb5 ?_
  refine Bod.bip 48 (by decide) dc_45_68 ?_
  refine Bod.subN (b - 48) (by omega) (by omega) dc_45_70 ?_
  refine Bod.i2lN (by omega) dc_45_71 ?_
  refine Bod.laddN (10 * v + b - 48) (by omega) dc_45_72 ?_
  refine Bod.put dc_45_73 fr_45_102 (mk_31 _) (Nat.le_of_ble_eq_true rfl) pf_3_10 (st_3110 _ _) (mu_J _ _ _) ?_
  refine Bod.go dc_45_76 rfl ?_
  refine Bod.go dc_45_77 rfl ?_
  refine Bod.get dc_45_78 fr_45_23 (mk_31 _) rfl ?_
  refine Bod.eqI (nI (p + m)) (by first | (simp (disch := omega) only [rI, rIe, rA, rIA, rLA, rJA, rVI, rQI, rVA, rQA, upd_at,  rAI, rLI, rJI, nI_add, pk_sub, kc_0, kc_1, kc_2, kc_3, kc_4, kc_5, reduceIte, Nat.reduceEqDiff, Nat.add_zero, rI_hold, rI_hold, rL_hold, hn, hp]; done) | (simp (disch := omega) only [rI, rIe, rA, rIA, rLA, rJA, rVI, rQI, rVA, rQA, upd_at,  rAI, rLI, rJI, nI_add, pk_sub, kc_0, kc_1, kc_2, kc_3, kc_4, kc_5, reduceIte, Nat.reduceEqDiff, Nat.add_zero, rI_hold, rI_hold, rL_hold, hn, hp]; exact congrArg nI (by omega))) ?_
  refine Bod.ic 1 (by decide) dc_45_81 ?_
  refine Bod.addN (p + m + 1) (by omega) dc_45_82 ?_
  refine Bod.put dc_45_83 fr_45_23 (mk_31 _) (Nat.le_of_ble_eq_true rfl) pf_3_3 (st_3103 _ _) (mu_I _ _ _) ?_
  refine Bod.go dc_45_86 rfl ?_
  refine Bod.go dc_45_87 rfl ?_
  refine Bod.get dc_45_88 fr_45_23 (mk_31 _) rfl ?_
  refine Bod.eqI (nI (p + m + 1)) (by first | (simp (disch := omega) only [rI, rIe, rA, rIA, rLA, rJA, rVI, rQI, rVA, rQA, upd_at,  rAI, rLI, rJI, nI_add, pk_sub, kc_0, kc_1, kc_2, kc_3, kc_4, kc_5, reduceIte, Nat.reduceEqDiff, Nat.add_zero, rI_hold, rI_hold, rL_hold, hn, hp]; done) | (simp (disch := omega) only [rI, rIe, rA, rIA, rLA, rJA, rVI, rQI, rVA, rQA, upd_at,  rAI, rLI, rJI, nI_add, pk_sub, kc_0, kc_1, kc_2, kc_3, kc_4, kc_5, reduceIte, Nat.reduceEqDiff, Nat.add_zero, rI_hold, rI_hold, rL_hold, hn, hp]; exact congrArg nI (by omega))) ?_
  refine Bod.virt (r := []) dc_45_91 kr_45_50 ⟨Or.inl rfl, ow_38, cl_3⟩ (by rw [np_38]; rfl) (by rw [np_38]; rfl) (ob_of (mk_31 _)) (Nat.le_of_ble_eq_true rfl) (byteAt_b (n := n) (i := p + m + 1) (by first | (simp (disch := omega) only [rI, rIe, rA, rIA, rLA, rJA, rVI, rQI, rVA, rQA, upd_at,  rAI, rLI, rJI, nI_add, pk_sub, kc_0, kc_1, kc_2, kc_3, kc_4, kc_5, reduceIte, Nat.reduceEqDiff, Nat.add_zero, rI_hold, rI_hold, rL_hold, hn, hp]; done) | (simp (disch := omega) only [rI, rIe, rA, rIA, rLA, rJA, rVI, rQI, rVA, rQA, upd_at,  rAI, rLI, rJI, nI_add, pk_sub, kc_0, kc_1, kc_2, kc_3, kc_4, kc_5, reduceIte, Nat.reduceEqDiff, Nat.add_zero, rI_hold, rI_hold, rL_hold, hn, hp]; exact congrArg nI (by omega))) (by omega) (by omega)) ?_
  show Bod _ _ _ _ [_] _ _ _
  refine Bod.istn dc_45_94 (by rw [ml_45]; exact Nat.le_of_ble_eq_true rfl) ?_
  refine Bod.go dc_45_95 rfl ?_
  exact hB
theorem readNumber_stop {d n p m : Nat} {S : cS} (hM : n ≤ 3000) (hn : sI S 3102 = nI n) (hp : sI S 3103 = nI (p + m)) (hpn : p + m ≤ n) (he : p + m = n ∨ c_dig (c_byte S (p + m)) = false) : Bod (d + 2) 45 14 [(1, .int (c_b S n (p + m))), (0, .ref 31)] [] S none (wI 3105 (nI 4) S) := by
  by_cases hin : p + m < n
  · obtain ⟨b, hb⟩ : ∃ b, c_byte S (p + m) = b := ⟨_, rfl⟩
    have hb2 : b < 256 := by rw [← hb]; exact (c_byte_eq S (p + m)).2
    have hD : c_dig b = false := by
      rw [← hb]
      exact he.resolve_left (by omega)
    have hb5 : c_b S n (p + m) = nI b := by
      unfold c_b
      rw [if_pos hin, hb]
    refine Bod.go dc_45_14 rfl ?_
    refine Bod.get dc_45_15 fr_45_23 (mk_31 _) rfl ?_
    refine Bod.eqI (nI (p + m)) (by first | assumption | rfl | exact congrArg nI (by omega) | (simp (disch := omega) only [rI, rIe, rA, rIA, rLA, rJA, rVI, rQI, rVA, rQA, upd_at,  rAI, rLI, rJI, nI_add, pk_sub, kc_0, kc_1, kc_2, kc_3, kc_4, kc_5, reduceIte, Nat.reduceEqDiff, Nat.add_zero, rI_hold, rI_hold, rL_hold, hn, hp]; done)) ?_
    refine Bod.go dc_45_18 rfl ?_
    refine Bod.get dc_45_19 fr_45_19 (mk_31 _) rfl ?_
    refine Bod.eqI (nI n) (by first | assumption | rfl | exact congrArg nI (by omega) | (simp (disch := omega) only [rI, rIe, rA, rIA, rLA, rJA, rVI, rQI, rVA, rQA, upd_at,  rAI, rLI, rJI, nI_add, pk_sub, kc_0, kc_1, kc_2, kc_3, kc_4, kc_5, reduceIte, Nat.reduceEqDiff, Nat.add_zero, rI_hold, rI_hold, rL_hold, hn, hp]; done)) ?_
    refine Bod.icF dc_45_22 rfl (k2_ge_F (p + m) n rfl rfl (by omega) (by omega)) ?_
    refine Bod.go dc_45_25 rfl ?_
    refine Bod.eqI (nI b) hb5 ?_
    refine Bod.stat (r := []) dc_45_26 kr_45_70 (Or.inr rfl) (by rw [np_43]; rfl) (by rw [np_43]; rfl) (by rw [np_43]; exact Nat.le_of_ble_eq_true rfl) (Nat.le_of_ble_eq_true rfl) (isDigit_F (b := b) (by omega) hD) ?_
    show Bod _ _ _ _ [_] _ _ _
    refine Bod.ifT dc_45_29 rfl (k1_eq_T (k_eq 0 0 rfl rfl (by omega))) ?_
    refine Bod.go dc_45_98 rfl ?_
    refine Bod.ic 4 (by decide) dc_45_99 ?_
    refine Bod.put dc_45_100 fr_45_38 (mk_31 _) (Nat.le_of_ble_eq_true rfl) pf_3_5 (st_3105 _ _) (mu_I _ _ _) ?_
    exact Bod.retV dc_45_103 rt_45
  · have hc2 : n ≤ p + m := by omega
    refine Bod.go dc_45_14 rfl ?_
    refine Bod.get dc_45_15 fr_45_23 (mk_31 _) rfl ?_
    refine Bod.eqI (nI (p + m)) (by first | assumption | rfl | exact congrArg nI (by omega) | (simp (disch := omega) only [rI, rIe, rA, rIA, rLA, rJA, rVI, rQI, rVA, rQA, upd_at,  rAI, rLI, rJI, nI_add, pk_sub, kc_0, kc_1, kc_2, kc_3, kc_4, kc_5, reduceIte, Nat.reduceEqDiff, Nat.add_zero, rI_hold, rI_hold, rL_hold, hn, hp]; done)) ?_
    refine Bod.go dc_45_18 rfl ?_
    refine Bod.get dc_45_19 fr_45_19 (mk_31 _) rfl ?_
    refine Bod.eqI (nI n) (by first | assumption | rfl | exact congrArg nI (by omega) | (simp (disch := omega) only [rI, rIe, rA, rIA, rLA, rJA, rVI, rQI, rVA, rQA, upd_at,  rAI, rLI, rJI, nI_add, pk_sub, kc_0, kc_1, kc_2, kc_3, kc_4, kc_5, reduceIte, Nat.reduceEqDiff, Nat.add_zero, rI_hold, rI_hold, rL_hold, hn, hp]; done)) ?_
    refine Bod.icT dc_45_22 rfl (k2_ge_T (p + m) n rfl rfl (by omega) (by omega)) ?_
    refine Bod.go dc_45_98 rfl ?_
    refine Bod.ic 4 (by decide) dc_45_99 ?_
    refine Bod.put dc_45_100 fr_45_38 (mk_31 _) (Nat.le_of_ble_eq_true rfl) pf_3_5 (st_3105 _ _) (mu_I _ _ _) ?_
    exact Bod.retV dc_45_103 rt_45
