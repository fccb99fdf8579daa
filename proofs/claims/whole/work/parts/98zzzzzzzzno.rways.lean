/-! WAYS of the reference's machine: every call is a hypothesis -/
theorem dc_400_700 : decode (sm_cc 400) 700 = .ok (.aload_n 0, 1) := by decide +kernel
theorem dc_400_701 : decode (sm_cc 400) 701 = .ok (.bipush (8), 2) := by decide +kernel
theorem dc_400_703 : decode (sm_cc 400) 703 = .ok (.invokevirtual 608, 3) := by decide +kernel
theorem dc_400_706 : decode (sm_cc 400) 706 = .ok (.ireturn, 1) := by decide +kernel
theorem rFl_1 {d : Nat} {S : cS} {x : Nat} {S1 : cS} (mx : x < 2 ^ 20) (c1 : Ans (d + 8) 351 [.ref 61, .int (nI 8)] S (some (.int (nI 0))) S1) : Bod (d + 8) 400 0 [(0, .ref 61), (1, .int (nI 39)), (2, .int (nI x))] [] S (some (.int 0)) (S1) := by
  refine Bod.go dc_400_0 rfl ?_
  refine Bod.sw (t := 700) dc_400_1 rfl rfl (by decide +kernel) ?_
  refine Bod.go dc_400_700 rfl ?_
  refine Bod.bip 8 (by decide) dc_400_701 ?_
  refine Bod.virt (r := []) dc_400_703 kr_400_608 ⟨Or.inl rfl, ow_351, cl_14⟩ (by rw [np_351]; rfl) (by rw [np_351]; rfl) (ob_of (mk_61 _)) (Nat.le_of_ble_eq_true rfl) (c1  ) ?_
  show Bod _ _ _ _ [_] _ _ _
  exact Bod.retZ dc_400_706 rt_400 (Or.inl rfl)
