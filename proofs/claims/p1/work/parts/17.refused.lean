/-! WHAT BOTH SIDES REFUSE -/
theorem ml_284 : sm_ml 284 = 6 := by decide +kernel
theorem dc_284_0 : decode (sm_cc 284) 0 = .ok (.lload_n 0, 1) := by decide +kernel
theorem dc_284_1 : decode (sm_cc 284) 1 = .ok (.lload_n 2, 1) := by decide +kernel
theorem dc_284_2 : decode (sm_cc 284) 2 = .ok (.lcmp, 1) := by decide +kernel
theorem dc_284_3 : decode (sm_cc 284) 3 = .ok (.ifCond .lt (14), 3) := by decide +kernel
theorem dc_284_17 : decode (sm_cc 284) 17 = .ok (.iconst 0, 1) := by decide +kernel
theorem dc_284_18 : decode (sm_cc 284) 18 = .ok (.ireturn, 1) := by decide +kernel
theorem rt_284 : sm_rt 284 = some .boolean := by decide +kernel
theorem dc_284_6 : decode (sm_cc 284) 6 = .ok (.lload_n 0, 1) := by decide +kernel
theorem dc_284_7 : decode (sm_cc 284) 7 = .ok (.lload 4, 2) := by decide +kernel
theorem dc_284_9 : decode (sm_cc 284) 9 = .ok (.lcmp, 1) := by decide +kernel
theorem dc_284_10 : decode (sm_cc 284) 10 = .ok (.ifCond .gt (7), 3) := by decide +kernel
theorem dc_284_13 : decode (sm_cc 284) 13 = .ok (.iconst 1, 1) := by decide +kernel
theorem dc_284_14 : decode (sm_cc 284) 14 = .ok (.goto (4), 3) := by decide +kernel
theorem fr_283_854 : sm_at mt_f (sm_ow 283) 854 = some (854, 14, 75, 0, 2148) := by decide +kernel
theorem kr_283_680 : sm_at mt_k (sm_ow 283) 680 = some (680, 2, 284, 0, 2313) := by decide +kernel
theorem np_284 : sm_np 284 = 3 := by decide +kernel
theorem ml_283 : sm_ml 283 = 2 := by decide +kernel
theorem dc_283_0 : decode (sm_cc 283) 0 = .ok (.iload_n 1, 1) := by decide +kernel
theorem dc_283_1 : decode (sm_cc 283) 1 = .ok (.i2l, 1) := by decide +kernel
theorem dc_283_2 : decode (sm_cc 283) 2 = .ok (.lconst 0, 1) := by decide +kernel
theorem dc_283_3 : decode (sm_cc 283) 3 = .ok (.aload_n 0, 1) := by decide +kernel
theorem dc_283_4 : decode (sm_cc 283) 4 = .ok (.getfield 854, 3) := by decide +kernel
theorem dc_283_7 : decode (sm_cc 283) 7 = .ok (.i2l, 1) := by decide +kernel
theorem dc_283_8 : decode (sm_cc 283) 8 = .ok (.invokestatic 680, 3) := by decide +kernel
theorem dc_283_11 : decode (sm_cc 283) 11 = .ok (.ifCond .ne (5), 3) := by decide +kernel
theorem dc_283_14 : decode (sm_cc 283) 14 = .ok (.iconst (-1), 1) := by decide +kernel
theorem dc_283_15 : decode (sm_cc 283) 15 = .ok (.ireturn, 1) := by decide +kernel
theorem rt_283 : sm_rt 283 = some .int := by decide +kernel
theorem cj_422_744 : sm_at mt_cj (sm_ow 422) 744 = some (744, (-1), 2965) := by decide +kernel
theorem fr_422_808 : sm_at mt_f (sm_ow 422) 808 = some (808, 14, 72, 0, 2145) := by decide +kernel
theorem kr_422_680 : sm_at mt_k (sm_ow 422) 680 = some (680, 2, 284, 0, 2313) := by decide +kernel
theorem ml_422 : sm_ml 422 = 2 := by decide +kernel
theorem dc_422_0 : decode (sm_cc 422) 0 = .ok (.iload_n 1, 1) := by decide +kernel
theorem dc_422_1 : decode (sm_cc 422) 1 = .ok (.i2l, 1) := by decide +kernel
theorem dc_422_2 : decode (sm_cc 422) 2 = .ok (.ldc2_w 744, 3) := by decide +kernel
theorem dc_422_5 : decode (sm_cc 422) 5 = .ok (.aload_n 0, 1) := by decide +kernel
theorem dc_422_6 : decode (sm_cc 422) 6 = .ok (.getfield 808, 3) := by decide +kernel
theorem dc_422_9 : decode (sm_cc 422) 9 = .ok (.iconst 1, 1) := by decide +kernel
theorem dc_422_10 : decode (sm_cc 422) 10 = .ok (.isub, 1) := by decide +kernel
theorem dc_422_11 : decode (sm_cc 422) 11 = .ok (.i2l, 1) := by decide +kernel
theorem dc_422_12 : decode (sm_cc 422) 12 = .ok (.invokestatic 680, 3) := by decide +kernel
theorem dc_422_15 : decode (sm_cc 422) 15 = .ok (.ifCond .ne (5), 3) := by decide +kernel
theorem dc_422_18 : decode (sm_cc 422) 18 = .ok (.iconst (-1), 1) := by decide +kernel
theorem dc_422_19 : decode (sm_cc 422) 19 = .ok (.ireturn, 1) := by decide +kernel
theorem rt_422 : sm_rt 422 = some .int := by decide +kernel
theorem cj_423_869 : sm_at mt_cj (sm_ow 423) 869 = some (869, (9), 3031) := by decide +kernel
theorem kr_423_680 : sm_at mt_k (sm_ow 423) 680 = some (680, 2, 284, 0, 2313) := by decide +kernel
theorem ml_423 : sm_ml 423 = 4 := by decide +kernel
theorem dc_423_0 : decode (sm_cc 423) 0 = .ok (.iload_n 1, 1) := by decide +kernel
theorem dc_423_1 : decode (sm_cc 423) 1 = .ok (.i2l, 1) := by decide +kernel
theorem dc_423_2 : decode (sm_cc 423) 2 = .ok (.lconst 0, 1) := by decide +kernel
theorem dc_423_3 : decode (sm_cc 423) 3 = .ok (.ldc2_w 869, 3) := by decide +kernel
theorem dc_423_6 : decode (sm_cc 423) 6 = .ok (.invokestatic 680, 3) := by decide +kernel
theorem dc_423_9 : decode (sm_cc 423) 9 = .ok (.ifCond .ne (5), 3) := by decide +kernel
theorem dc_423_12 : decode (sm_cc 423) 12 = .ok (.iconst (-1), 1) := by decide +kernel
theorem dc_423_13 : decode (sm_cc 423) 13 = .ok (.ireturn, 1) := by decide +kernel
theorem rt_423 : sm_rt 423 = some .int := by decide +kernel
theorem cj_285_857 : sm_at mt_cj (sm_ow 285) 857 = some (857, (20000), 2320) := by decide +kernel
theorem kr_285_680 : sm_at mt_k (sm_ow 285) 680 = some (680, 2, 284, 0, 2313) := by decide +kernel
theorem ml_285 : sm_ml 285 = 4 := by decide +kernel
theorem dc_285_0 : decode (sm_cc 285) 0 = .ok (.iload_n 1, 1) := by decide +kernel
theorem dc_285_1 : decode (sm_cc 285) 1 = .ok (.i2l, 1) := by decide +kernel
theorem dc_285_2 : decode (sm_cc 285) 2 = .ok (.lconst 1, 1) := by decide +kernel
theorem dc_285_3 : decode (sm_cc 285) 3 = .ok (.ldc2_w 857, 3) := by decide +kernel
theorem dc_285_6 : decode (sm_cc 285) 6 = .ok (.invokestatic 680, 3) := by decide +kernel
theorem dc_285_9 : decode (sm_cc 285) 9 = .ok (.ifCond .ne (6), 3) := by decide +kernel
theorem dc_285_12 : decode (sm_cc 285) 12 = .ok (.bipush (-2), 2) := by decide +kernel
theorem dc_285_14 : decode (sm_cc 285) 14 = .ok (.ireturn, 1) := by decide +kernel
theorem rt_285 : sm_rt 285 = some .int := by decide +kernel
theorem dc_29_0 : decode (sm_cc 29) 0 = .ok (.iload_n 1, 1) := by decide +kernel
theorem dc_29_1 : decode (sm_cc 29) 1 = .ok (.ifCond .lt (11), 3) := by decide +kernel
theorem dc_29_12 : decode (sm_cc 29) 12 = .ok (.iconst (-1), 1) := by decide +kernel
theorem dc_29_13 : decode (sm_cc 29) 13 = .ok (.ireturn, 1) := by decide +kernel
theorem rt_29 : sm_rt 29 = some .int := by decide +kernel
theorem fr_29_81 : sm_at mt_f (sm_ow 29) 81 = some (81, 11, 7, 0, 904) := by decide +kernel
theorem dc_29_4 : decode (sm_cc 29) 4 = .ok (.iload_n 1, 1) := by decide +kernel
theorem dc_29_5 : decode (sm_cc 29) 5 = .ok (.aload_n 0, 1) := by decide +kernel
theorem dc_29_6 : decode (sm_cc 29) 6 = .ok (.getfield 81, 3) := by decide +kernel
theorem dc_29_9 : decode (sm_cc 29) 9 = .ok (.if_icmp .le (5), 3) := by decide +kernel
theorem ml_29 : sm_ml 29 = 2 := by decide +kernel
theorem dc_30_0 : decode (sm_cc 30) 0 = .ok (.iload_n 1, 1) := by decide +kernel
theorem dc_30_1 : decode (sm_cc 30) 1 = .ok (.iconst 1, 1) := by decide +kernel
theorem dc_30_2 : decode (sm_cc 30) 2 = .ok (.if_icmp .lt (10), 3) := by decide +kernel
theorem dc_30_12 : decode (sm_cc 30) 12 = .ok (.bipush (-2), 2) := by decide +kernel
theorem dc_30_14 : decode (sm_cc 30) 14 = .ok (.ireturn, 1) := by decide +kernel
theorem rt_30 : sm_rt 30 = some .int := by decide +kernel
theorem dc_30_5 : decode (sm_cc 30) 5 = .ok (.iload_n 1, 1) := by decide +kernel
theorem dc_30_6 : decode (sm_cc 30) 6 = .ok (.sipush (20000), 3) := by decide +kernel
theorem dc_30_9 : decode (sm_cc 30) 9 = .ok (.if_icmp .le (6), 3) := by decide +kernel
theorem ml_30 : sm_ml 30 = 4 := by decide +kernel
theorem cq_lt {a b : Int64} (h : a < b) : lg_cmp a b = -1 := by
  have h1 := Int64.lt_iff_toInt_lt.mp h
  unfold lg_cmp
  rw [if_neg (fun h2 => by have := Int64.lt_iff_toInt_lt.mp h2; omega), if_neg (fun h2 => by rw [h2] at h1; omega)]
theorem cq_gt {a b : Int64} (h : b < a) : lg_cmp a b = 1 := by
  unfold lg_cmp
  rw [if_pos h]
theorem cq_ge {a b : Int64} (h : ¬ a < b) : sm_c1 .lt (lg_cmp a b) true false = false := by
  unfold lg_cmp
  by_cases h1 : a > b
  · rw [if_pos h1]
    decide
  · have h2 : a = b := Int64.toInt_inj.mp (by
      have h3 : ¬ a.toInt < b.toInt := fun h4 => h (Int64.lt_iff_toInt_lt.mpr h4)
      have h5 : ¬ b.toInt < a.toInt := fun h4 => h1 (Int64.lt_iff_toInt_lt.mpr h4)
      omega)
    rw [if_neg h1, if_pos h2]
    decide
theorem cq_le {a b : Int64} (h : ¬ b < a) : sm_c1 .gt (lg_cmp a b) true false = false := by
  unfold lg_cmp
  rw [if_neg h]
  by_cases h1 : a = b
  · rw [if_pos h1]
    decide
  · rw [if_neg h1]
    decide
theorem cq_c1t {c : Jvm.ClassFile.Cond} {x y : Int32} (e : x = y) (h : sm_c1 c y true false = true) : sm_c1 c x true false = true := by rw [e]; exact h
theorem cq_low {v w : Int32} (h : v < w) : v.toInt64 < w.toInt64 := Int64.lt_iff_toInt_lt.mpr (by
  rw [Int32.toInt_toInt64, Int32.toInt_toInt64]
  exact Int32.lt_iff_toInt_lt.mp h)
theorem in_no {X : Option (Nat × (Nat → Int32))} {d n u : Nat} {σ : sm_H} {a b c : Int64} (h : a < b ∨ c < a) : sm_ev X (d + 1) (n + 12) 284 [.long a, .long b, .long c] σ u = some (some (.int 0), σ, u) := by
  rw [sx_ev (by rw [ml_284]; exact Nat.le_of_ble_eq_true rfl)]
  by_cases h1 : a < b
  ·
    refine (sx_go dc_284_0 rfl).trans ?_
    refine (sx_go dc_284_1 rfl).trans ?_
    refine (sx_go dc_284_2 rfl).trans ?_
    refine (sx_if_t dc_284_3 rfl (cq_c1t (cq_lt h1) (by decide))).trans ?_
    refine (sx_go dc_284_17 rfl).trans ?_
    exact sx_ret_bool dc_284_18 rt_284 (Or.inl rfl)
  · have h2 : c < a := h.resolve_left h1
    refine (sx_go dc_284_0 rfl).trans ?_
    refine (sx_go dc_284_1 rfl).trans ?_
    refine (sx_go dc_284_2 rfl).trans ?_
    refine (sx_if_f dc_284_3 rfl (cq_ge h1)).trans ?_
    refine (sx_go dc_284_6 rfl).trans ?_
    refine (sx_go dc_284_7 rfl).trans ?_
    refine (sx_go dc_284_9 rfl).trans ?_
    refine (sx_if_t dc_284_10 rfl (cq_c1t (cq_gt h2) (by decide))).trans ?_
    refine (sx_go dc_284_17 rfl).trans ?_
    exact sx_ret_bool dc_284_18 rt_284 (Or.inl rfl)
theorem in_yes {X : Option (Nat × (Nat → Int32))} {d n u : Nat} {σ : sm_H} {a b c : Int64} (h1 : ¬ a < b) (h2 : ¬ c < a) : sm_ev X (d + 1) (n + 12) 284 [.long a, .long b, .long c] σ u = some (some (.int 1), σ, u) := by
  rw [sx_ev (by rw [ml_284]; exact Nat.le_of_ble_eq_true rfl)]
  refine (sx_go dc_284_0 rfl).trans ?_
  refine (sx_go dc_284_1 rfl).trans ?_
  refine (sx_go dc_284_2 rfl).trans ?_
  refine (sx_if_f dc_284_3 rfl (cq_ge h1)).trans ?_
  refine (sx_go dc_284_6 rfl).trans ?_
  refine (sx_go dc_284_7 rfl).trans ?_
  refine (sx_go dc_284_9 rfl).trans ?_
  refine (sx_if_f dc_284_10 rfl (cq_le h2)).trans ?_
  refine (sx_go dc_284_13 rfl).trans ?_
  refine (sx_go dc_284_14 rfl).trans ?_
  exact sx_ret_bool dc_284_18 rt_284 (Or.inr rfl)
theorem re_no {X : Option (Nat × (Nat → Int32))} {d n u : Nat} {σ : sm_H} {v : Int32} {a : Nat} {t : Int32} (hf : sx_fd σ a 14 75 = some (.int t)) (h : v < 0 ∨ t < v) : sm_ev X (d + 2) (n + 20) 283 [.ref a, .int v] σ u = some (some (.int (-1)), σ, u) := by
  rw [sx_ev (by rw [ml_283]; exact Nat.le_of_ble_eq_true rfl)]
  refine (sx_go dc_283_0 rfl).trans ?_
  refine (sx_go dc_283_1 rfl).trans ?_
  refine (sx_go dc_283_2 rfl).trans ?_
  refine (sx_go dc_283_3 rfl).trans ?_
  refine (sx_getfield dc_283_4 fr_283_854 hf).trans ?_
  refine (sx_go dc_283_7 rfl).trans ?_
  refine (sx_stat (st := [.long t.toInt64, .long 0, .long v.toInt64]) (v := some (.int 0)) (σ2 := σ) (u2 := u) dc_283_8 kr_283_680 (Or.inl rfl) (by rw [np_284]; exact Nat.le_of_ble_eq_true rfl) (by rw [np_284]; exact Nat.le_of_ble_eq_true rfl) (by rw [np_284]; exact in_no (h.elim (fun h => Or.inl (cq_low h)) (fun h => Or.inr (cq_low h))))).trans ?_
  rw [np_284]
  refine (sx_if_f dc_283_11 rfl (by decide)).trans ?_
  refine (sx_go dc_283_14 rfl).trans ?_
  exact sx_ret_int dc_283_15 rt_283
theorem ro_no {X : Option (Nat × (Nat → Int32))} {d n u : Nat} {σ : sm_H} {v : Int32} {a : Nat} {t : Int32} (hf : sx_fd σ a 14 72 = some (.int t)) (h : v < -1 ∨ t - 1 < v) : sm_ev X (d + 2) (n + 20) 422 [.ref a, .int v] σ u = some (some (.int (-1)), σ, u) := by
  rw [sx_ev (by rw [ml_422]; exact Nat.le_of_ble_eq_true rfl)]
  refine (sx_go dc_422_0 rfl).trans ?_
  refine (sx_go dc_422_1 rfl).trans ?_
  refine (sx_ldc2 dc_422_2 cj_422_744).trans ?_
  refine (sx_go dc_422_5 rfl).trans ?_
  refine (sx_getfield dc_422_6 fr_422_808 hf).trans ?_
  refine (sx_go dc_422_9 rfl).trans ?_
  refine (sx_go dc_422_10 rfl).trans ?_
  refine (sx_go dc_422_11 rfl).trans ?_
  refine (sx_stat (st := [.long (t - 1).toInt64, .long (-1), .long v.toInt64]) (v := some (.int 0)) (σ2 := σ) (u2 := u) dc_422_12 kr_422_680 (Or.inl rfl) (by rw [np_284]; exact Nat.le_of_ble_eq_true rfl) (by rw [np_284]; exact Nat.le_of_ble_eq_true rfl) (by rw [np_284]; exact in_no (h.elim (fun h => Or.inl (cq_low h)) (fun h => Or.inr (cq_low h))))).trans ?_
  rw [np_284]
  refine (sx_if_f dc_422_15 rfl (by decide)).trans ?_
  refine (sx_go dc_422_18 rfl).trans ?_
  exact sx_ret_int dc_422_19 rt_422
theorem rc_no {X : Option (Nat × (Nat → Int32))} {d n u : Nat} {σ : sm_H} {v : Int32} {a : Nat} (h : v < 0 ∨ 9 < v) : sm_ev X (d + 2) (n + 20) 423 [.ref a, .int v] σ u = some (some (.int (-1)), σ, u) := by
  rw [sx_ev (by rw [ml_423]; exact Nat.le_of_ble_eq_true rfl)]
  refine (sx_go dc_423_0 rfl).trans ?_
  refine (sx_go dc_423_1 rfl).trans ?_
  refine (sx_go dc_423_2 rfl).trans ?_
  refine (sx_ldc2 dc_423_3 cj_423_869).trans ?_
  refine (sx_stat (st := [.long 9, .long 0, .long v.toInt64]) (v := some (.int 0)) (σ2 := σ) (u2 := u) dc_423_6 kr_423_680 (Or.inl rfl) (by rw [np_284]; exact Nat.le_of_ble_eq_true rfl) (by rw [np_284]; exact Nat.le_of_ble_eq_true rfl) (by rw [np_284]; exact in_no (h.elim (fun h => Or.inl (cq_low h)) (fun h => Or.inr (cq_low h))))).trans ?_
  rw [np_284]
  refine (sx_if_f dc_423_9 rfl (by decide)).trans ?_
  refine (sx_go dc_423_12 rfl).trans ?_
  exact sx_ret_int dc_423_13 rt_423
theorem rr_no {X : Option (Nat × (Nat → Int32))} {d n u : Nat} {σ : sm_H} {v : Int32} {a : Nat} (h : v < 1 ∨ 20000 < v) : sm_ev X (d + 2) (n + 20) 285 [.ref a, .int v] σ u = some (some (.int (-2)), σ, u) := by
  rw [sx_ev (by rw [ml_285]; exact Nat.le_of_ble_eq_true rfl)]
  refine (sx_go dc_285_0 rfl).trans ?_
  refine (sx_go dc_285_1 rfl).trans ?_
  refine (sx_go dc_285_2 rfl).trans ?_
  refine (sx_ldc2 dc_285_3 cj_285_857).trans ?_
  refine (sx_stat (st := [.long 20000, .long 1, .long v.toInt64]) (v := some (.int 0)) (σ2 := σ) (u2 := u) dc_285_6 kr_285_680 (Or.inl rfl) (by rw [np_284]; exact Nat.le_of_ble_eq_true rfl) (by rw [np_284]; exact Nat.le_of_ble_eq_true rfl) (by rw [np_284]; exact in_no (h.elim (fun h => Or.inl (cq_low h)) (fun h => Or.inr (cq_low h))))).trans ?_
  rw [np_284]
  refine (sx_if_f dc_285_9 rfl (by decide)).trans ?_
  refine (sx_go dc_285_12 rfl).trans ?_
  exact sx_ret_int dc_285_14 rt_285
theorem ce_no {X : Option (Nat × (Nat → Int32))} {d n u : Nat} {σ : sm_H} {v : Int32} {a : Nat} {t : Int32} (hf : sx_fd σ a 11 7 = some (.int t)) (h : v < 0 ∨ t < v) : sm_ev X (d + 1) (n + 20) 29 [.ref a, .int v] σ u = some (some (.int (-1)), σ, u) := by
  rw [sx_ev (by rw [ml_29]; exact Nat.le_of_ble_eq_true rfl)]
  by_cases h1 : v < 0
  ·
    refine (sx_go dc_29_0 rfl).trans ?_
    refine (sx_if_t dc_29_1 rfl (if_pos h1)).trans ?_
    refine (sx_go dc_29_12 rfl).trans ?_
    exact sx_ret_int dc_29_13 rt_29
  · have h2 : t < v := h.resolve_left h1
    refine (sx_go dc_29_0 rfl).trans ?_
    refine (sx_if_f dc_29_1 rfl (if_neg h1)).trans ?_
    refine (sx_go dc_29_4 rfl).trans ?_
    refine (sx_go dc_29_5 rfl).trans ?_
    refine (sx_getfield dc_29_6 fr_29_81 hf).trans ?_
    refine (sx_ic_f dc_29_9 rfl (if_neg (Int32.not_le.mpr h2))).trans ?_
    refine (sx_go dc_29_12 rfl).trans ?_
    exact sx_ret_int dc_29_13 rt_29
theorem cr_no {X : Option (Nat × (Nat → Int32))} {d n u : Nat} {σ : sm_H} {v : Int32} {a : Nat} (h : v < 1 ∨ 20000 < v) : sm_ev X (d + 1) (n + 20) 30 [.ref a, .int v] σ u = some (some (.int (-2)), σ, u) := by
  rw [sx_ev (by rw [ml_30]; exact Nat.le_of_ble_eq_true rfl)]
  by_cases h1 : v < 1
  ·
    refine (sx_go dc_30_0 rfl).trans ?_
    refine (sx_go dc_30_1 rfl).trans ?_
    refine (sx_ic_t dc_30_2 rfl (if_pos h1)).trans ?_
    refine (sx_go dc_30_12 rfl).trans ?_
    exact sx_ret_int dc_30_14 rt_30
  · have h2 : 20000 < v := h.resolve_left h1
    refine (sx_go dc_30_0 rfl).trans ?_
    refine (sx_go dc_30_1 rfl).trans ?_
    refine (sx_ic_f dc_30_2 rfl (if_neg h1)).trans ?_
    refine (sx_go dc_30_5 rfl).trans ?_
    refine (sx_go dc_30_6 rfl).trans ?_
    refine (sx_ic_f dc_30_9 rfl (if_neg (Int32.not_le.mpr h2))).trans ?_
    refine (sx_go dc_30_12 rfl).trans ?_
    exact sx_ret_int dc_30_14 rt_30
