/-! COMPILING OF THE REFERENCE: a new code (298) -/
theorem dc_298_0 : decode (sm_cc 298) 0 = .ok (.aload_n 0, 1) := by decide +kernel
theorem dc_298_1 : decode (sm_cc 298) 1 = .ok (.invokespecial 1, 3) := by decide +kernel
theorem dc_298_4 : decode (sm_cc 298) 4 = .ok (.aload_n 0, 1) := by decide +kernel
theorem dc_298_5 : decode (sm_cc 298) 5 = .ok (.bipush (64), 2) := by decide +kernel
theorem dc_298_7 : decode (sm_cc 298) 7 = .ok (.newarray .int, 2) := by decide +kernel
theorem dc_298_9 : decode (sm_cc 298) 9 = .ok (.putfield 7, 3) := by decide +kernel
theorem fr_298_7 : ∃ w, sm_at mt_f (sm_ow 298) 7 = some (7, 12, 0, w) := ⟨((sm_at mt_f (sm_ow 298) 7).getD (0, 0, 0, 0, 0)).2.2.2, by decide +kernel⟩
theorem dc_298_12 : decode (sm_cc 298) 12 = .ok (.aload_n 0, 1) := by decide +kernel
theorem dc_298_13 : decode (sm_cc 298) 13 = .ok (.bipush (8), 2) := by decide +kernel
theorem dc_298_15 : decode (sm_cc 298) 15 = .ok (.newarray .long, 2) := by decide +kernel
theorem dc_298_17 : decode (sm_cc 298) 17 = .ok (.putfield 13, 3) := by decide +kernel
theorem fr_298_13 : ∃ w, sm_at mt_f (sm_ow 298) 13 = some (13, 12, 2, w) := ⟨((sm_at mt_f (sm_ow 298) 13).getD (0, 0, 0, 0, 0)).2.2.2, by decide +kernel⟩
theorem dc_298_20 : decode (sm_cc 298) 20 = .ok (.aload_n 0, 1) := by decide +kernel
theorem dc_298_21 : decode (sm_cc 298) 21 = .ok (.bipush (8), 2) := by decide +kernel
theorem dc_298_23 : decode (sm_cc 298) 23 = .ok (.newarray .long, 2) := by decide +kernel
theorem dc_298_25 : decode (sm_cc 298) 25 = .ok (.putfield 17, 3) := by decide +kernel
theorem fr_298_17 : ∃ w, sm_at mt_f (sm_ow 298) 17 = some (17, 12, 3, w) := ⟨((sm_at mt_f (sm_ow 298) 17).getD (0, 0, 0, 0, 0)).2.2.2, by decide +kernel⟩
theorem dc_298_28 : decode (sm_cc 298) 28 = .ok (.aload_n 0, 1) := by decide +kernel
theorem dc_298_29 : decode (sm_cc 298) 29 = .ok (.bipush (8), 2) := by decide +kernel
theorem dc_298_31 : decode (sm_cc 298) 31 = .ok (.newarray .long, 2) := by decide +kernel
theorem dc_298_33 : decode (sm_cc 298) 33 = .ok (.putfield 20, 3) := by decide +kernel
theorem fr_298_20 : ∃ w, sm_at mt_f (sm_ow 298) 20 = some (20, 12, 4, w) := ⟨((sm_at mt_f (sm_ow 298) 20).getD (0, 0, 0, 0, 0)).2.2.2, by decide +kernel⟩
theorem dc_298_36 : decode (sm_cc 298) 36 = .ok (.aload_n 0, 1) := by decide +kernel
theorem dc_298_37 : decode (sm_cc 298) 37 = .ok (.iconst 4, 1) := by decide +kernel
theorem dc_298_38 : decode (sm_cc 298) 38 = .ok (.newarray .int, 2) := by decide +kernel
theorem dc_298_40 : decode (sm_cc 298) 40 = .ok (.putfield 23, 3) := by decide +kernel
theorem fr_298_23 : ∃ w, sm_at mt_f (sm_ow 298) 23 = some (23, 12, 7, w) := ⟨((sm_at mt_f (sm_ow 298) 23).getD (0, 0, 0, 0, 0)).2.2.2, by decide +kernel⟩
theorem dc_298_43 : decode (sm_cc 298) 43 = .ok (.aload_n 0, 1) := by decide +kernel
theorem dc_298_44 : decode (sm_cc 298) 44 = .ok (.iconst 4, 1) := by decide +kernel
theorem dc_298_45 : decode (sm_cc 298) 45 = .ok (.newarray .int, 2) := by decide +kernel
theorem dc_298_47 : decode (sm_cc 298) 47 = .ok (.putfield 26, 3) := by decide +kernel
theorem fr_298_26 : ∃ w, sm_at mt_f (sm_ow 298) 26 = some (26, 12, 8, w) := ⟨((sm_at mt_f (sm_ow 298) 26).getD (0, 0, 0, 0, 0)).2.2.2, by decide +kernel⟩
theorem dc_298_50 : decode (sm_cc 298) 50 = .ok (.aload_n 0, 1) := by decide +kernel
theorem dc_298_51 : decode (sm_cc 298) 51 = .ok (.iconst 4, 1) := by decide +kernel
theorem dc_298_52 : decode (sm_cc 298) 52 = .ok (.newarray .int, 2) := by decide +kernel
theorem dc_298_54 : decode (sm_cc 298) 54 = .ok (.putfield 29, 3) := by decide +kernel
theorem fr_298_29 : ∃ w, sm_at mt_f (sm_ow 298) 29 = some (29, 12, 9, w) := ⟨((sm_at mt_f (sm_ow 298) 29).getD (0, 0, 0, 0, 0)).2.2.2, by decide +kernel⟩
theorem dc_298_57 : decode (sm_cc 298) 57 = .ok (.aload_n 0, 1) := by decide +kernel
theorem dc_298_58 : decode (sm_cc 298) 58 = .ok (.iconst 4, 1) := by decide +kernel
theorem dc_298_59 : decode (sm_cc 298) 59 = .ok (.newarray .int, 2) := by decide +kernel
theorem dc_298_61 : decode (sm_cc 298) 61 = .ok (.putfield 32, 3) := by decide +kernel
theorem fr_298_32 : ∃ w, sm_at mt_f (sm_ow 298) 32 = some (32, 12, 10, w) := ⟨((sm_at mt_f (sm_ow 298) 32).getD (0, 0, 0, 0, 0)).2.2.2, by decide +kernel⟩
theorem dc_298_64 : decode (sm_cc 298) 64 = .ok (.return_, 1) := by decide +kernel
theorem dc_286_0 : decode (sm_cc 286) 0 = .ok (.aload_n 0, 1) := by decide +kernel
theorem dc_286_1 : decode (sm_cc 286) 1 = .ok (.aload_n 1, 1) := by decide +kernel
theorem dc_286_2 : decode (sm_cc 286) 2 = .ok (.iload_n 2, 1) := by decide +kernel
theorem dc_286_3 : decode (sm_cc 286) 3 = .ok (.invokevirtual 225, 3) := by decide +kernel
theorem dc_286_6 : decode (sm_cc 286) 6 = .ok (.aload_n 0, 1) := by decide +kernel
theorem dc_286_7 : decode (sm_cc 286) 7 = .ok (.new 211, 3) := by decide +kernel
theorem dc_286_10 : decode (sm_cc 286) 10 = .ok (.dup, 1) := by decide +kernel
theorem dc_286_11 : decode (sm_cc 286) 11 = .ok (.invokespecial 229, 3) := by decide +kernel
theorem dc_286_14 : decode (sm_cc 286) 14 = .ok (.putfield 206, 3) := by decide +kernel
theorem ml_298 : sm_ml 298 = 1 := by decide +kernel
theorem rt_298 : sm_rt 298 = none := by decide +kernel
/-- an array more, in field f of m -/
def arI (m f n : Nat) (S : cS) : cS := wV (100 * m + f) (.ref (108 + (sS S).length)) (wK (0, n) n (wF (108 + (sS S).length) (fun _ => 0) S))
def arL (m f n : Nat) (S : cS) : cS := wV (100 * m + f) (.ref (108 + (sS S).length)) (wK (1, n) n (wG (108 + (sS S).length) (fun _ => 0) S))
theorem nc_0 {d m : Nat} {S Sf : cS} {v : Option Value} {lv : sm_L} (hm : 108 ≤ m) (hl : sm_get lv 0 = some (.ref m)) (hs : (sS S)[m - 108]? = some (12, 0)) (h : Bod d 298 12 lv [] (arI m 0 64 S) v Sf) : Bod d 298 4 lv [] S v Sf := by
  refine Bod.aldnG dc_298_4 hl ?_
  refine Bod.bip 64 (by decide) dc_298_5 ?_
  refine Bod.newint (by decide) dc_298_7 ?_
  obtain ⟨w, hw⟩ := fr_298_7
  have hs' : (sS (wK (0, 64) 64 (wF (108 + (sS S).length) (fun _ => 0) S)))[m - 108]? = some (12, 0) := sS_old (l := [(0, 64)]) rfl hs
  exact Bod.put dc_298_9 hw (mk_code hm hs') (Nat.le_of_ble_eq_true rfl) pr_12_0 (st_code_0 hm hs') (mu_V _ _ _) h
theorem nc_1 {d m : Nat} {S Sf : cS} {v : Option Value} {lv : sm_L} (hm : 108 ≤ m) (hl : sm_get lv 0 = some (.ref m)) (hs : (sS S)[m - 108]? = some (12, 0)) (h : Bod d 298 20 lv [] (arL m 2 8 S) v Sf) : Bod d 298 12 lv [] S v Sf := by
  refine Bod.aldnG dc_298_12 hl ?_
  refine Bod.bip 8 (by decide) dc_298_13 ?_
  refine Bod.newlong (by decide) dc_298_15 ?_
  obtain ⟨w, hw⟩ := fr_298_13
  have hs' : (sS (wK (1, 8) 8 (wG (108 + (sS S).length) (fun _ => 0) S)))[m - 108]? = some (12, 0) := sS_old (l := [(1, 8)]) rfl hs
  exact Bod.put dc_298_17 hw (mk_code hm hs') (Nat.le_of_ble_eq_true rfl) pr_12_2 (st_code_2 hm hs') (mu_V _ _ _) h
theorem nc_2 {d m : Nat} {S Sf : cS} {v : Option Value} {lv : sm_L} (hm : 108 ≤ m) (hl : sm_get lv 0 = some (.ref m)) (hs : (sS S)[m - 108]? = some (12, 0)) (h : Bod d 298 28 lv [] (arL m 3 8 S) v Sf) : Bod d 298 20 lv [] S v Sf := by
  refine Bod.aldnG dc_298_20 hl ?_
  refine Bod.bip 8 (by decide) dc_298_21 ?_
  refine Bod.newlong (by decide) dc_298_23 ?_
  obtain ⟨w, hw⟩ := fr_298_17
  have hs' : (sS (wK (1, 8) 8 (wG (108 + (sS S).length) (fun _ => 0) S)))[m - 108]? = some (12, 0) := sS_old (l := [(1, 8)]) rfl hs
  exact Bod.put dc_298_25 hw (mk_code hm hs') (Nat.le_of_ble_eq_true rfl) pr_12_3 (st_code_3 hm hs') (mu_V _ _ _) h
theorem nc_3 {d m : Nat} {S Sf : cS} {v : Option Value} {lv : sm_L} (hm : 108 ≤ m) (hl : sm_get lv 0 = some (.ref m)) (hs : (sS S)[m - 108]? = some (12, 0)) (h : Bod d 298 36 lv [] (arL m 4 8 S) v Sf) : Bod d 298 28 lv [] S v Sf := by
  refine Bod.aldnG dc_298_28 hl ?_
  refine Bod.bip 8 (by decide) dc_298_29 ?_
  refine Bod.newlong (by decide) dc_298_31 ?_
  obtain ⟨w, hw⟩ := fr_298_20
  have hs' : (sS (wK (1, 8) 8 (wG (108 + (sS S).length) (fun _ => 0) S)))[m - 108]? = some (12, 0) := sS_old (l := [(1, 8)]) rfl hs
  exact Bod.put dc_298_33 hw (mk_code hm hs') (Nat.le_of_ble_eq_true rfl) pr_12_4 (st_code_4 hm hs') (mu_V _ _ _) h
theorem nc_4 {d m : Nat} {S Sf : cS} {v : Option Value} {lv : sm_L} (hm : 108 ≤ m) (hl : sm_get lv 0 = some (.ref m)) (hs : (sS S)[m - 108]? = some (12, 0)) (h : Bod d 298 43 lv [] (arI m 7 4 S) v Sf) : Bod d 298 36 lv [] S v Sf := by
  refine Bod.aldnG dc_298_36 hl ?_
  refine Bod.ic 4 (by decide) dc_298_37 ?_
  refine Bod.newint (by decide) dc_298_38 ?_
  obtain ⟨w, hw⟩ := fr_298_23
  have hs' : (sS (wK (0, 4) 4 (wF (108 + (sS S).length) (fun _ => 0) S)))[m - 108]? = some (12, 0) := sS_old (l := [(0, 4)]) rfl hs
  exact Bod.put dc_298_40 hw (mk_code hm hs') (Nat.le_of_ble_eq_true rfl) pr_12_7 (st_code_7 hm hs') (mu_V _ _ _) h
theorem nc_5 {d m : Nat} {S Sf : cS} {v : Option Value} {lv : sm_L} (hm : 108 ≤ m) (hl : sm_get lv 0 = some (.ref m)) (hs : (sS S)[m - 108]? = some (12, 0)) (h : Bod d 298 50 lv [] (arI m 8 4 S) v Sf) : Bod d 298 43 lv [] S v Sf := by
  refine Bod.aldnG dc_298_43 hl ?_
  refine Bod.ic 4 (by decide) dc_298_44 ?_
  refine Bod.newint (by decide) dc_298_45 ?_
  obtain ⟨w, hw⟩ := fr_298_26
  have hs' : (sS (wK (0, 4) 4 (wF (108 + (sS S).length) (fun _ => 0) S)))[m - 108]? = some (12, 0) := sS_old (l := [(0, 4)]) rfl hs
  exact Bod.put dc_298_47 hw (mk_code hm hs') (Nat.le_of_ble_eq_true rfl) pr_12_8 (st_code_8 hm hs') (mu_V _ _ _) h
theorem nc_6 {d m : Nat} {S Sf : cS} {v : Option Value} {lv : sm_L} (hm : 108 ≤ m) (hl : sm_get lv 0 = some (.ref m)) (hs : (sS S)[m - 108]? = some (12, 0)) (h : Bod d 298 57 lv [] (arI m 9 4 S) v Sf) : Bod d 298 50 lv [] S v Sf := by
  refine Bod.aldnG dc_298_50 hl ?_
  refine Bod.ic 4 (by decide) dc_298_51 ?_
  refine Bod.newint (by decide) dc_298_52 ?_
  obtain ⟨w, hw⟩ := fr_298_29
  have hs' : (sS (wK (0, 4) 4 (wF (108 + (sS S).length) (fun _ => 0) S)))[m - 108]? = some (12, 0) := sS_old (l := [(0, 4)]) rfl hs
  exact Bod.put dc_298_54 hw (mk_code hm hs') (Nat.le_of_ble_eq_true rfl) pr_12_9 (st_code_9 hm hs') (mu_V _ _ _) h
theorem nc_7 {d m : Nat} {S Sf : cS} {v : Option Value} {lv : sm_L} (hm : 108 ≤ m) (hl : sm_get lv 0 = some (.ref m)) (hs : (sS S)[m - 108]? = some (12, 0)) (h : Bod d 298 64 lv [] (arI m 10 4 S) v Sf) : Bod d 298 57 lv [] S v Sf := by
  refine Bod.aldnG dc_298_57 hl ?_
  refine Bod.ic 4 (by decide) dc_298_58 ?_
  refine Bod.newint (by decide) dc_298_59 ?_
  obtain ⟨w, hw⟩ := fr_298_32
  have hs' : (sS (wK (0, 4) 4 (wF (108 + (sS S).length) (fun _ => 0) S)))[m - 108]? = some (12, 0) := sS_old (l := [(0, 4)]) rfl hs
  exact Bod.put dc_298_61 hw (mk_code hm hs') (Nat.le_of_ble_eq_true rfl) pr_12_10 (st_code_10 hm hs') (mu_V _ _ _) h
/-- Object's own -/
theorem Bod.obj {d j pc q k1 a : Nat} {w : Nat × Nat × Nat} {lv : sm_L} {r : List Value} {S Sf : cS} {v : Option Value} (hd : decode (sm_cc j) pc = .ok (.invokespecial q, 3)) (hk : sm_at mt_k (sm_ow j) q = some (k1, 6, w)) (hr : (r.map fun v => v.category).sum ≤ 8) (h : Bod d j (pc + 3) lv r S v Sf) : Bod d j pc lv (.ref a :: r) S v Sf := by
  refine Bod.go hd ?_ h
  have h0 : sm_na (sm_ow j) (.invokespecial q) (.ref a :: r) (mk S) = some (3, r, mk S) := by
    unfold sm_na
    simp only [hk]
    rw [if_pos hr]
  unfold sm_do
  simp only [show sm_ops (.invokespecial q) (.ref a :: r) = none from rfl, show sm_loc (sm_ml j) (.invokespecial q) lv (.ref a :: r) = none from rfl, show sm_br (.invokespecial q) 3 pc (.ref a :: r) = none from rfl, show sm_rd none (sm_ow j) (.invokespecial q) (.ref a :: r) (mk S) = none from rfl, show sm_wr (sm_ow j) (sm_ini j) (.invokespecial q) (.ref a :: r) (mk S) = none from rfl, show sm_mk (sm_ow j) (.invokespecial q) (.ref a :: r) (mk S) (mu S) = none from rfl, h0, if_true]
/-- a code as it is made -/
def ncS (S : cS) : cS := wV (100 * (108 + (sS S).length) + 10) .null (wV (100 * (108 + (sS S).length) + 9) .null (wV (100 * (108 + (sS S).length) + 8) .null (wV (100 * (108 + (sS S).length) + 7) .null (wV (100 * (108 + (sS S).length) + 4) .null (wV (100 * (108 + (sS S).length) + 3) .null (wV (100 * (108 + (sS S).length) + 2) .null (wV (100 * (108 + (sS S).length) + 0) .null (wI (100 * (108 + (sS S).length) + 11) 0 (wI (100 * (108 + (sS S).length) + 6) 0 (wI (100 * (108 + (sS S).length) + 5) 0 (wI (100 * (108 + (sS S).length) + 1) 0 S)))))))))))
theorem ncS_I (S : cS) (i : Nat) : sI (ncS S) i = if i = 100 * (108 + (sS S).length) + 11 ∨ i = 100 * (108 + (sS S).length) + 6 ∨ i = 100 * (108 + (sS S).length) + 5 ∨ i = 100 * (108 + (sS S).length) + 1 then 0 else sI S i := by
  show (if i = 100 * (108 + (sS S).length) + 11 then 0 else if i = 100 * (108 + (sS S).length) + 6 then 0 else if i = 100 * (108 + (sS S).length) + 5 then 0 else if i = 100 * (108 + (sS S).length) + 1 then 0 else sI S i) = _
  by_cases h1 : i = 100 * (108 + (sS S).length) + 11
  · rw [if_pos h1, if_pos (Or.inl h1)]
  · rw [if_neg h1]
    by_cases h2 : i = 100 * (108 + (sS S).length) + 6
    · rw [if_pos h2, if_pos (Or.inr (Or.inl h2))]
    · rw [if_neg h2]
      by_cases h3 : i = 100 * (108 + (sS S).length) + 5
      · rw [if_pos h3, if_pos (Or.inr (Or.inr (Or.inl h3)))]
      · rw [if_neg h3]
        by_cases h4 : i = 100 * (108 + (sS S).length) + 1
        · rw [if_pos h4, if_pos (Or.inr (Or.inr (Or.inr h4)))]
        · rw [if_neg h4, if_neg (fun q => by omega)]
theorem ncS_V (S : cS) (i : Nat) (h : i < 100 * (108 + (sS S).length)) : sV (ncS S) i = sV S i := by
  show (if i = 100 * (108 + (sS S).length) + 10 then _ else if i = 100 * (108 + (sS S).length) + 9 then _ else if i = 100 * (108 + (sS S).length) + 8 then _ else if i = 100 * (108 + (sS S).length) + 7 then _ else if i = 100 * (108 + (sS S).length) + 4 then _ else if i = 100 * (108 + (sS S).length) + 3 then _ else if i = 100 * (108 + (sS S).length) + 2 then _ else if i = 100 * (108 + (sS S).length) + 0 then _ else sV S i) = _
  rw [if_neg (by omega), if_neg (by omega), if_neg (by omega), if_neg (by omega), if_neg (by omega), if_neg (by omega), if_neg (by omega), if_neg (by omega)]
theorem mk_newcode (S : cS) : mk S ++ [.inr (12, sm_new 12)] = mk (wK (12, 0) 12 (ncS S)) :=
  mk_new (S1 := ncS S) (by
    unfold ncS
    rw [fx_V (by omega), fx_V (by omega), fx_V (by omega), fx_V (by omega), fx_V (by omega), fx_V (by omega), fx_V (by omega), fx_V (by omega), fx_I (by omega), fx_I (by omega), fx_I (by omega), fx_I (by omega)]) rfl (fun b q h1 h2 => cell_congr q (fun i hi => by rw [ncS_I, if_neg (by omega)]) (fun _ _ => rfl) (fun i hi => ncS_V S _ (by omega)) rfl rfl) (by
    show Sum.inr (12, _) = Sum.inr (12, sm_new 12)
    have e : sm_new 12 = [.null, .int 0, .null, .null, .null, .int 0, .int 0, .null, .null, .null, .null, .int 0] := rfl
    rw [e]
    have v0 : ∀ k, k = 0 ∨ k = 2 ∨ k = 3 ∨ k = 4 ∨ k = 7 ∨ k = 8 ∨ k = 9 ∨ k = 10 → sV (ncS S) (100 * (108 + (sS S).length) + k) = .null := fun k hk => by
      show (if 100 * (108 + (sS S).length) + k = 100 * (108 + (sS S).length) + 10 then _ else if 100 * (108 + (sS S).length) + k = 100 * (108 + (sS S).length) + 9 then _ else if 100 * (108 + (sS S).length) + k = 100 * (108 + (sS S).length) + 8 then _ else if 100 * (108 + (sS S).length) + k = 100 * (108 + (sS S).length) + 7 then _ else if 100 * (108 + (sS S).length) + k = 100 * (108 + (sS S).length) + 4 then _ else if 100 * (108 + (sS S).length) + k = 100 * (108 + (sS S).length) + 3 then _ else if 100 * (108 + (sS S).length) + k = 100 * (108 + (sS S).length) + 2 then _ else if 100 * (108 + (sS S).length) + k = 100 * (108 + (sS S).length) + 0 then _ else sV S (100 * (108 + (sS S).length) + k)) = _
      repeat' split
      all_goals first | rfl | omega
    have i0 : ∀ k, k = 1 ∨ k = 5 ∨ k = 6 ∨ k = 11 → sI (ncS S) (100 * (108 + (sS S).length) + k) = 0 := fun k hk => by rw [ncS_I, if_pos (by omega)]
    rw [v0 0 (by omega), v0 2 (by omega), v0 3 (by omega), v0 4 (by omega), v0 7 (by omega), v0 8 (by omega), v0 9 (by omega), v0 10 (by omega), i0 1 (by omega), i0 5 (by omega), i0 6 (by omega), i0 11 (by omega)])
theorem Bod.newcode {d j pc q : Nat} {w : Nat × Nat × Nat} {k1 : Nat} {lv : sm_L} {st : List Value} {S Sf : cS} {v : Option Value} (hd : decode (sm_cc j) pc = .ok (.new q, 3)) (hk : sm_at mt_n (sm_ow j) q = some (k1, 12, w)) (h : Bod d j (pc + 3) lv (.ref (108 + (sS S).length) :: st) (wK (12, 0) 12 (ncS S)) v Sf) : Bod d j pc lv st S v Sf :=
  Bod.of (pc1 := pc + 3) (lv1 := lv) (st1 := .ref (108 + (sS S).length) :: st) (S1 := wK (12, 0) 12 (ncS S)) (fun cal n => by
    rw [sx_new hd hk, mk_len, mk_newcode]
    rfl) h
