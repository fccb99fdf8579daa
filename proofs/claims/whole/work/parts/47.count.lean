/-! COUNT of the class; what count and run refuse -/
theorem dc_273_4 : decode (sm_cc 273) 4 = .ok (.aload_n 0, 1) := by decide +kernel
theorem dc_273_5 : decode (sm_cc 273) 5 = .ok (.getfield 16, 3) := by decide +kernel
theorem fr_273_16 : sm_at mt_f (sm_ow 273) 16 = some (16, 11, 2, 0, 899) := by decide +kernel
theorem dc_273_8 : decode (sm_cc 273) 8 = .ok (.invokevirtual 127, 3) := by decide +kernel
theorem ow_251 : 2 = sm_ow 251 := by decide +kernel
theorem kr_273_127 : sm_at mt_k (sm_ow 273) 127 = some (127, 1, 251, 1, 2028) := by decide +kernel
theorem np_251 : sm_np 251 = 0 := by decide +kernel
theorem dc_273_11 : decode (sm_cc 273) 11 = .ok (.ireturn, 1) := by decide +kernel
theorem dc_273_23 : decode (sm_cc 273) 23 = .ok (.aload_n 0, 1) := by decide +kernel
theorem dc_273_24 : decode (sm_cc 273) 24 = .ok (.getfield 16, 3) := by decide +kernel
theorem dc_273_27 : decode (sm_cc 273) 27 = .ok (.iload_n 1, 1) := by decide +kernel
theorem dc_273_28 : decode (sm_cc 273) 28 = .ok (.invokevirtual 130, 3) := by decide +kernel
theorem ow_274 : 2 = sm_ow 274 := by decide +kernel
theorem kr_273_130 : sm_at mt_k (sm_ow 273) 130 = some (130, 1, 274, 1, 2029) := by decide +kernel
theorem np_274 : sm_np 274 = 1 := by decide +kernel
theorem dc_273_31 : decode (sm_cc 273) 31 = .ok (.ireturn, 1) := by decide +kernel
theorem dc_273_38 : decode (sm_cc 273) 38 = .ok (.aload_n 0, 1) := by decide +kernel
theorem dc_273_39 : decode (sm_cc 273) 39 = .ok (.getfield 25, 3) := by decide +kernel
theorem fr_273_25 : sm_at mt_f (sm_ow 273) 25 = some (25, 11, 1, 0, 898) := by decide +kernel
theorem dc_273_42 : decode (sm_cc 273) 42 = .ok (.invokevirtual 133, 3) := by decide +kernel
theorem ow_275 : 5 = sm_ow 275 := by decide +kernel
theorem kr_273_133 : sm_at mt_k (sm_ow 273) 133 = some (133, 1, 275, 1, 2033) := by decide +kernel
theorem np_275 : sm_np 275 = 0 := by decide +kernel
theorem dc_273_45 : decode (sm_cc 273) 45 = .ok (.ireturn, 1) := by decide +kernel
theorem dc_273_52 : decode (sm_cc 273) 52 = .ok (.aload_n 0, 1) := by decide +kernel
theorem dc_273_53 : decode (sm_cc 273) 53 = .ok (.getfield 77, 3) := by decide +kernel
theorem fr_273_77 : sm_at mt_f (sm_ow 273) 77 = some (77, 11, 6, 0, 903) := by decide +kernel
theorem dc_273_56 : decode (sm_cc 273) 56 = .ok (.invokevirtual 136, 3) := by decide +kernel
theorem ow_276 : 4 = sm_ow 276 := by decide +kernel
theorem kr_273_136 : sm_at mt_k (sm_ow 273) 136 = some (136, 1, 276, 1, 2037) := by decide +kernel
theorem np_276 : sm_np 276 = 0 := by decide +kernel
theorem dc_273_59 : decode (sm_cc 273) 59 = .ok (.goto (4), 3) := by decide +kernel
theorem aliveN_ev {d : Nat} {S : cS}   : Ans (d + 1) 251 [.ref 2] S (some (.int (sI S 213))) (S) := by
  refine Ans.of (by rw [ml_251]; exact Nat.le_of_ble_eq_true rfl) ?_
  refine Bod.go dc_251_0 rfl ?_
  refine Bod.get dc_251_1 fr_251_55 (mk_2 _) rfl ?_
  exact Bod.retI dc_251_4 rt_251
theorem countOf_ev {d : Nat} {S : cS} {k : Nat} (h1 : 1 ≤ k) (h7 : k ≤ 7) : Ans (d + 1) 274 [.ref 2, .int (nI k)] S (some (.int (sA S 12 k))) (S) := by
  refine Ans.of (by rw [ml_274]; exact Nat.le_of_ble_eq_true rfl) ?_
  refine Bod.go dc_274_0 rfl ?_
  refine Bod.ic 1 (by decide) dc_274_1 ?_
  refine Bod.icF dc_274_2 rfl (k2_lt_F k 1 rfl rfl (by omega) (by omega)) ?_
  refine Bod.go dc_274_5 rfl ?_
  refine Bod.bip 7 (by decide) dc_274_6 ?_
  refine Bod.icF dc_274_8 rfl (k2_gt_F k 7 rfl rfl (by omega) (by omega)) ?_
  refine Bod.go dc_274_11 rfl ?_
  refine Bod.get dc_274_12 fr_274_42 (mk_2 _) rfl ?_
  refine Bod.go dc_274_15 rfl ?_
  refine Bod.ialdN k rfl (by omega) (by omega) dc_274_16 (mk_12 _) ?_
  refine Bod.go dc_274_17 rfl ?_
  exact Bod.retI dc_274_21 rt_274
theorem count_c0 {d : Nat} {S : cS}   : Ans (d + 2) 273 [.ref 0, .int (nI 0)] S (some (.int (sI S 213))) (S) := by
  refine Ans.of (by rw [ml_273]; exact Nat.le_of_ble_eq_true rfl) ?_
  refine Bod.go dc_273_0 rfl ?_
  refine Bod.ifF dc_273_1 rfl (k1_ne_F (k_eq 0 0 rfl rfl (by omega))) ?_
  refine Bod.go dc_273_4 rfl ?_
  refine Bod.get dc_273_5 fr_273_16 (mk_0 _) rfl ?_
  refine Bod.virt (r := []) dc_273_8 kr_273_127 ⟨Or.inr rfl, ow_251, cl_2⟩ (by rw [np_251]; rfl) (by rw [np_251]; rfl) (ob_of (mk_2 _)) (Nat.le_of_ble_eq_true rfl) (aliveN_ev  ) ?_
  show Bod _ _ _ _ [_] _ _ _
  exact Bod.retI dc_273_11 rt_273
theorem count_ck {d : Nat} {S : cS} {k : Nat} (h1 : 1 ≤ k) (h7 : k ≤ 7) : Ans (d + 2) 273 [.ref 0, .int (nI k)] S (some (.int (sA S 12 k))) (S) := by
  refine Ans.of (by rw [ml_273]; exact Nat.le_of_ble_eq_true rfl) ?_
  refine Bod.go dc_273_0 rfl ?_
  refine Bod.ifT dc_273_1 rfl (k1_ne_T (k_ne k 0 rfl rfl (by omega) (by omega) (by omega))) ?_
  refine Bod.go dc_273_12 rfl ?_
  refine Bod.ic 1 (by decide) dc_273_13 ?_
  refine Bod.icF dc_273_14 rfl (k2_lt_F k 1 rfl rfl (by omega) (by omega)) ?_
  refine Bod.go dc_273_17 rfl ?_
  refine Bod.bip 7 (by decide) dc_273_18 ?_
  refine Bod.icF dc_273_20 rfl (k2_gt_F k 7 rfl rfl (by omega) (by omega)) ?_
  refine Bod.go dc_273_23 rfl ?_
  refine Bod.get dc_273_24 fr_273_16 (mk_0 _) rfl ?_
  refine Bod.go dc_273_27 rfl ?_
  refine Bod.virt (r := []) dc_273_28 kr_273_130 ⟨Or.inr rfl, ow_274, cl_2⟩ (by rw [np_274]; rfl) (by rw [np_274]; rfl) (ob_of (mk_2 _)) (Nat.le_of_ble_eq_true rfl) (countOf_ev (k := k) (by omega) (by omega)) ?_
  show Bod _ _ _ _ [_] _ _ _
  exact Bod.retI dc_273_31 rt_273
theorem count_c8 {d : Nat} {S : cS}   : Ans (d + 2) 273 [.ref 0, .int (nI 8)] S (some (.int (sI S 1608))) (S) := by
  refine Ans.of (by rw [ml_273]; exact Nat.le_of_ble_eq_true rfl) ?_
  refine Bod.go dc_273_0 rfl ?_
  refine Bod.ifT dc_273_1 rfl (k1_ne_T (k_ne 8 0 rfl rfl (by omega) (by omega) (by omega))) ?_
  refine Bod.go dc_273_12 rfl ?_
  refine Bod.ic 1 (by decide) dc_273_13 ?_
  refine Bod.icF dc_273_14 rfl (k2_lt_F 8 1 rfl rfl (by omega) (by omega)) ?_
  refine Bod.go dc_273_17 rfl ?_
  refine Bod.bip 7 (by decide) dc_273_18 ?_
  refine Bod.icT dc_273_20 rfl (k2_gt_T 8 7 rfl rfl (by omega) (by omega)) ?_
  refine Bod.go dc_273_32 rfl ?_
  refine Bod.bip 8 (by decide) dc_273_33 ?_
  refine Bod.icF dc_273_35 rfl (k2_ne_F (k_eq 8 8 rfl rfl (by omega))) ?_
  refine Bod.go dc_273_38 rfl ?_
  refine Bod.get dc_273_39 fr_273_25 (mk_0 _) rfl ?_
  refine Bod.virt (r := []) dc_273_42 kr_273_133 ⟨Or.inr rfl, ow_275, cl_5⟩ (by rw [np_275]; rfl) (by rw [np_275]; rfl) (ob_of (mk_16 _)) (Nat.le_of_ble_eq_true rfl) (boundCount_ev  ) ?_
  show Bod _ _ _ _ [_] _ _ _
  exact Bod.retI dc_273_45 rt_273
theorem count_c9 {d : Nat} {S : cS}   : Ans (d + 2) 273 [.ref 0, .int (nI 9)] S (some (.int (sI S 5218))) (S) := by
  refine Ans.of (by rw [ml_273]; exact Nat.le_of_ble_eq_true rfl) ?_
  refine Bod.go dc_273_0 rfl ?_
  refine Bod.ifT dc_273_1 rfl (k1_ne_T (k_ne 9 0 rfl rfl (by omega) (by omega) (by omega))) ?_
  refine Bod.go dc_273_12 rfl ?_
  refine Bod.ic 1 (by decide) dc_273_13 ?_
  refine Bod.icF dc_273_14 rfl (k2_lt_F 9 1 rfl rfl (by omega) (by omega)) ?_
  refine Bod.go dc_273_17 rfl ?_
  refine Bod.bip 7 (by decide) dc_273_18 ?_
  refine Bod.icT dc_273_20 rfl (k2_gt_T 9 7 rfl rfl (by omega) (by omega)) ?_
  refine Bod.go dc_273_32 rfl ?_
  refine Bod.bip 8 (by decide) dc_273_33 ?_
  refine Bod.icT dc_273_35 rfl (k2_ne_T (k_ne 9 8 rfl rfl (by omega) (by omega) (by omega))) ?_
  refine Bod.go dc_273_46 rfl ?_
  refine Bod.bip 9 (by decide) dc_273_47 ?_
  refine Bod.icF dc_273_49 rfl (k2_ne_F (k_eq 9 9 rfl rfl (by omega))) ?_
  refine Bod.go dc_273_52 rfl ?_
  refine Bod.get dc_273_53 fr_273_77 (mk_0 _) rfl ?_
  refine Bod.virt (r := []) dc_273_56 kr_273_136 ⟨Or.inr rfl, ow_276, cl_4⟩ (by rw [np_276]; rfl) (by rw [np_276]; rfl) (ob_of (mk_52 _)) (Nat.le_of_ble_eq_true rfl) (stepsDone_ev  ) ?_
  show Bod _ _ _ _ [_] _ _ _
  refine Bod.go dc_273_59 rfl ?_
  exact Bod.retI dc_273_63 rt_273
theorem count_cn {d : Nat} {S : cS} {v : Int32} (h0 : v ≠ 0) (h8 : v ≠ 8) (h9 : v ≠ 9) (h : v < 1 ∨ 7 < v) : Ans (d + 1) 273 [.ref 0, .int v] S (some (.int (-1))) S := ⟨20, fun n hn => by
  obtain ⟨k, rfl⟩ : ∃ k, n = k + 20 := ⟨n - 20, by omega⟩
  exact cc_no h0 h8 h9 h⟩
theorem count_rn {d : Nat} {S : cS} {v : Int32} (h : v < 0 ∨ 9 < v) : Ans (d + 2) 423 [.ref 61, .int v] S (some (.int (-1))) S := ⟨20, fun n hn => by
  obtain ⟨k, rfl⟩ : ∃ k, n = k + 20 := ⟨n - 20, by omega⟩
  exact rc_no h⟩
theorem run_cn {d : Nat} {S : cS} {v : Int32} (h : v < 1 ∨ 20000 < v) : Ans (d + 1) 30 [.ref 0, .int v] S (some (.int (-2))) S := ⟨20, fun n hn => by
  obtain ⟨k, rfl⟩ : ∃ k, n = k + 20 := ⟨n - 20, by omega⟩
  exact cr_no h⟩
theorem run_rn {d : Nat} {S : cS} {v : Int32} (h : v < 1 ∨ 20000 < v) : Ans (d + 2) 285 [.ref 61, .int v] S (some (.int (-2))) S := ⟨20, fun n hn => by
  obtain ⟨k, rfl⟩ : ∃ k, n = k + 20 := ⟨n - 20, by omega⟩
  exact rr_no h⟩
/-- count: refused beyond 0 to 9; the rest is asked for number by number -/
theorem count_St {Inv : Nat → cS → Prop} {k : Nat} {S : cS} {a : Int32} (hI : Inv (k + 1) S) (hq : ∀ q, q ≤ 9 → c_St Inv k S 273 423 [.int (nI q)]) : c_St Inv k S 273 423 [.int a] := by
  by_cases h : a < 0 ∨ nI 9 < a
  · refine ⟨-1, S, S, count_cn ?_ ?_ ?_ ?_, count_rn h, hI⟩
    · exact fun e => by rw [e] at h; exact absurd h (by decide)
    · exact fun e => by rw [e] at h; exact absurd h (by decide)
    · exact fun e => by rw [e] at h; exact absurd h (by decide)
    · rcases h with h | h
      · refine Or.inl (Int32.lt_iff_toInt_lt.mpr ?_)
        have h1 := Int32.lt_iff_toInt_lt.mp h
        rw [show (0 : Int32).toInt = 0 by decide] at h1
        rw [show (1 : Int32).toInt = 1 by decide]
        omega
      · refine Or.inr (Int32.lt_iff_toInt_lt.mpr ?_)
        have h1 := Int32.lt_iff_toInt_lt.mp h
        rw [show (nI 9).toInt = 9 by decide] at h1
        rw [show (7 : Int32).toInt = 7 by decide]
        omega
  · obtain ⟨q, hq1, rfl⟩ := nI_of (x := a) (fun h3 => h (Or.inl h3))
    refine hq q ?_
    have h4 : ¬ nI 9 < nI q := fun h3 => h (Or.inr h3)
    have h5 : ¬ 9 < q := fun h6 => h4 (nI_lt h6 hq1)
    omega
/-- run: refused beyond 1 to 20000 -/
theorem run_St {Inv : Nat → cS → Prop} {k : Nat} {S : cS} {a : Int32} (hI : Inv (k + 1) S) (hq : ∀ q, 1 ≤ q → q ≤ 20000 → c_St Inv k S 30 285 [.int (nI q)]) : c_St Inv k S 30 285 [.int a] := by
  by_cases h : a < 1 ∨ 20000 < a
  · exact ⟨-2, S, S, run_cn h, run_rn h, hI⟩
  · have h0 : ¬ a < 0 := fun h3 => h (Or.inl (Int32.lt_iff_toInt_lt.mpr (by
      have h1 := Int32.lt_iff_toInt_lt.mp h3
      rw [show (0 : Int32).toInt = 0 by decide] at h1
      rw [show (1 : Int32).toInt = 1 by decide]
      omega)))
    obtain ⟨q, hq1, rfl⟩ := nI_of (x := a) h0
    have h4 : ¬ (nI q).toInt < (1 : Int32).toInt := fun h3 => h (Or.inl (Int32.lt_iff_toInt_lt.mpr h3))
    have h5 : ¬ (20000 : Int32).toInt < (nI q).toInt := fun h3 => h (Or.inr (Int32.lt_iff_toInt_lt.mpr h3))
    rw [nI_toInt hq1, show (1 : Int32).toInt = 1 by decide] at h4
    rw [nI_toInt hq1, show (20000 : Int32).toInt = 20000 by decide] at h5
    exact hq q (by omega) (by omega)
