/-! COMPILING OF THE REFERENCE: a new code, its state -/
theorem np_298 : sm_np 298 = 0 := by decide +kernel
theorem np_287 : sm_np 287 = 2 := by decide +kernel
theorem ow_287 : 14 = sm_ow 287 := by decide +kernel
theorem kr_298_1 : ∃ w, sm_at mt_k (sm_ow 298) 1 = some (1, 6, w) := ⟨((sm_at mt_k (sm_ow 298) 1).getD (0, 0, 0, 0, 0)).2.2, by decide +kernel⟩
theorem kr_286_225 : ∃ w, sm_at mt_k (sm_ow 286) 225 = some (225, 0, 287, w) := ⟨((sm_at mt_k (sm_ow 286) 225).getD (0, 0, 0, 0, 0)).2.2.2, by decide +kernel⟩
theorem kr_286_229 : ∃ w, sm_at mt_k (sm_ow 286) 229 = some (229, 5, 298, w) := ⟨((sm_at mt_k (sm_ow 286) 229).getD (0, 0, 0, 0, 0)).2.2.2, by decide +kernel⟩
theorem fr_286_206 : ∃ w, sm_at mt_f (sm_ow 286) 206 = some (206, 14, 14, w) := ⟨((sm_at mt_f (sm_ow 286) 206).getD (0, 0, 0, 0, 0)).2.2.2, by decide +kernel⟩
theorem kn_286_211 : ∃ w, sm_at mt_n (sm_ow 286) 211 = some (211, 12, w) := ⟨((sm_at mt_n (sm_ow 286) 211).getD (0, 0, 0, 0, 0)).2.2, by decide +kernel⟩
/-- behind 298 -/
def nwC (S : cS) : cS := arI (108 + (sS S).length) 10 4 (arI (108 + (sS S).length) 9 4 (arI (108 + (sS S).length) 8 4 (arI (108 + (sS S).length) 7 4 (arL (108 + (sS S).length) 4 8 (arL (108 + (sS S).length) 3 8 (arL (108 + (sS S).length) 2 8 (arI (108 + (sS S).length) 0 64 (wK (12, 0) 12 (ncS S)))))))))
section
variable {S : cS} {m f n : Nat}
theorem arI_s : sS (arI m f n S) = sS S ++ [(0, n)] := rfl
theorem arL_s : sS (arL m f n S) = sS S ++ [(1, n)] := rfl
theorem arI_v (k : Nat) : sV (arI m f n S) k = if k = 100 * m + f then .ref (108 + (sS S).length) else sV S k := rfl
theorem arL_v (k : Nat) : sV (arL m f n S) k = if k = 100 * m + f then .ref (108 + (sS S).length) else sV S k := rfl
theorem arI_a (a : Nat) (h : a ≠ 108 + (sS S).length) : sA (arI m f n S) a = sA S a := if_neg h
theorem arL_g (a : Nat) (h : a ≠ 108 + (sS S).length) : sL (arL m f n S) a = sL S a := if_neg h
theorem arI_old {i : Nat} {x : Nat × Nat} (h : (sS S)[i]? = some x) : (sS (arI m f n S))[i]? = some x := sS_old (l := [(0, n)]) rfl h
theorem arL_old {i : Nat} {x : Nat × Nat} (h : (sS S)[i]? = some x) : (sS (arL m f n S))[i]? = some x := sS_old (l := [(1, n)]) rfl h
theorem arI_at : (sS (arI m f n S))[(sS S).length]? = some (0, n) := by rw [arI_s, List.getElem?_append_right (Nat.le_refl _), Nat.sub_self]; rfl
theorem arL_at : (sS (arL m f n S))[(sS S).length]? = some (1, n) := by rw [arL_s, List.getElem?_append_right (Nat.le_refl _), Nat.sub_self]; rfl
theorem arI_n : (sS (arI m f n S)).length = (sS S).length + 1 := by rw [arI_s, List.length_append]; rfl
theorem arL_n : (sS (arL m f n S)).length = (sS S).length + 1 := by rw [arL_s, List.length_append]; rfl
end
theorem new_298 {d : Nat} {S : cS} : Ans (d + 2) 298 [.ref (108 + (sS S).length)] (wK (12, 0) 12 (ncS S)) none (nwC S) := by
  have h0 : (sS (wK (12, 0) 12 (ncS S)))[108 + (sS S).length - 108]? = some (12, 0) := by
    show (sS S ++ [(12, 0)])[108 + (sS S).length - 108]? = _
    rw [show 108 + (sS S).length - 108 = (sS S).length by omega, List.getElem?_append_right (Nat.le_refl _), Nat.sub_self]
    rfl
  have hm : 108 ≤ 108 + (sS S).length := by omega
  refine Ans.of (by rw [ml_298]; exact Nat.le_of_ble_eq_true rfl) ?_
  have hl : sm_get (lv_args 0 [Value.ref (108 + (sS S).length)]) 0 = some (.ref (108 + (sS S).length)) := rfl
  refine Bod.aldnG dc_298_0 hl ?_
  obtain ⟨w, hw⟩ := kr_298_1
  refine Bod.obj dc_298_1 hw (Nat.le_of_ble_eq_true rfl) ?_
  refine nc_0 hm hl h0 ?_
  have h1 := arI_old (m := 108 + (sS S).length) (f := 0) (n := 64) h0
  refine nc_1 hm hl h1 ?_
  have h2 := arL_old (m := 108 + (sS S).length) (f := 2) (n := 8) h1
  refine nc_2 hm hl h2 ?_
  have h3 := arL_old (m := 108 + (sS S).length) (f := 3) (n := 8) h2
  refine nc_3 hm hl h3 ?_
  have h4 := arL_old (m := 108 + (sS S).length) (f := 4) (n := 8) h3
  refine nc_4 hm hl h4 ?_
  have h5 := arI_old (m := 108 + (sS S).length) (f := 7) (n := 4) h4
  refine nc_5 hm hl h5 ?_
  have h6 := arI_old (m := 108 + (sS S).length) (f := 8) (n := 4) h5
  refine nc_6 hm hl h6 ?_
  have h7 := arI_old (m := 108 + (sS S).length) (f := 9) (n := 4) h6
  refine nc_7 hm hl h7 ?_
  exact Bod.retV dc_298_64 rt_298
/-- places 0 to 16 of compile -/
theorem cp_0 {d n : Nat} {S S1 Sf : cS} {v : Option Value} (h87 : Ans (d + 10) 287 [.ref 61, .ref 107, .int (nI n)] S none S1) (hB : Bod (d + 10) 286 17 (lv_args 0 [.ref 61, .ref 107, .int (nI n)]) [] (wV 6114 (.ref (108 + (sS S1).length)) (nwC S1)) v Sf) : Bod (d + 10) 286 0 (lv_args 0 [.ref 61, .ref 107, .int (nI n)]) [] S v Sf := by
  refine Bod.aldnG dc_286_0 rfl ?_
  refine Bod.aldnG dc_286_1 rfl ?_
  refine Bod.ildnG dc_286_2 rfl ?_
  obtain ⟨w1, hw1⟩ := kr_286_225
  refine Bod.virt (r := []) dc_286_3 hw1 ⟨Or.inl rfl, ow_287, cl_14⟩ (by rw [np_287]; rfl) (by rw [np_287]; rfl) (ob_of (mk_61 _)) (Nat.le_of_ble_eq_true rfl) h87 ?_
  show Bod _ _ _ _ [] _ _ _
  refine Bod.aldnG dc_286_6 rfl ?_
  obtain ⟨w2, hw2⟩ := kn_286_211
  refine Bod.newcode dc_286_7 hw2 ?_
  refine Bod.go dc_286_10 rfl ?_
  obtain ⟨w3, hw3⟩ := kr_286_229
  refine Bod.call (r := [.ref (108 + (sS S1).length), .ref 61]) (fun cal n R hc => sx_spec dc_286_11 hw3 (Or.inr rfl) (by rw [np_298]; rfl) (Nat.le_of_ble_eq_true rfl) (by rw [np_298]; exact hc)) (new_298 (d := d + 8)) ?_
  show Bod _ _ _ _ [_, _] _ _ _
  obtain ⟨w4, hw4⟩ := fr_286_206
  exact Bod.put dc_286_14 hw4 (mk_61 _) (Nat.le_of_ble_eq_true rfl) pr_14_14 (st_6114 _ _) (mu_V _ _ _) hB
