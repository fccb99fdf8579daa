/-! an object that is none has no values -/
theorem dc_156_11 : decode (sm_cc 156) 11 = .ok (.lconst 0, 1) := by decide +kernel
theorem dc_156_12 : decode (sm_cc 156) 12 = .ok (.goto 11, 3) := by decide +kernel
theorem dc_158_11 : decode (sm_cc 158) 11 = .ok (.lconst 0, 1) := by decide +kernel
theorem dc_158_12 : decode (sm_cc 158) 12 = .ok (.goto 13, 3) := by decide +kernel
theorem hiOf_00 {d : Nat} {S : cS} {e : Int32} : Ans (d + 3) 156 [.ref 2, .int (nI 0), .int e] S (some (.long 0)) S := by
  refine Ans.of (by rw [ml_156]; exact Nat.le_of_ble_eq_true rfl) ?_
  refine Bod.go dc_156_0 rfl ?_
  refine Bod.go dc_156_1 rfl ?_
  refine Bod.go dc_156_2 rfl ?_
  refine Bod.virt (r := []) dc_156_3 kr_156_95 ⟨Or.inl rfl, ow_157, cl_2⟩ (by rw [np_157]; rfl) (by rw [np_157]; rfl) (ob_of (mk_2 _)) (Nat.le_of_ble_eq_true rfl) (placeOf_0 (d := d) (S := S) (e := e)) ?_
  show Bod _ _ _ _ [_] _ _ _
  refine Bod.istn dc_156_6 (by rw [ml_156]; exact Nat.le_of_ble_eq_true rfl) ?_
  refine Bod.go dc_156_7 rfl ?_
  refine Bod.ifF dc_156_8 rfl (by decide) ?_
  refine Bod.go dc_156_11 rfl ?_
  refine Bod.go dc_156_12 rfl ?_
  exact Bod.retJ dc_156_23 rt_156
theorem loOf_00 {d : Nat} {S : cS} {e : Int32} : Ans (d + 3) 158 [.ref 2, .int (nI 0), .int e] S (some (.long 0)) S := by
  refine Ans.of (by rw [ml_158]; exact Nat.le_of_ble_eq_true rfl) ?_
  refine Bod.go dc_158_0 rfl ?_
  refine Bod.go dc_158_1 rfl ?_
  refine Bod.go dc_158_2 rfl ?_
  refine Bod.virt (r := []) dc_158_3 kr_158_95 ⟨Or.inl rfl, ow_157, cl_2⟩ (by rw [np_157]; rfl) (by rw [np_157]; rfl) (ob_of (mk_2 _)) (Nat.le_of_ble_eq_true rfl) (placeOf_0 (d := d) (S := S) (e := e)) ?_
  show Bod _ _ _ _ [_] _ _ _
  refine Bod.istn dc_158_6 (by rw [ml_158]; exact Nat.le_of_ble_eq_true rfl) ?_
  refine Bod.go dc_158_7 rfl ?_
  refine Bod.ifF dc_158_8 rfl (by decide) ?_
  refine Bod.go dc_158_11 rfl ?_
  refine Bod.go dc_158_12 rfl ?_
  exact Bod.retJ dc_158_25 rt_158
