/-! THE REFERENCE'S MACHINE: a new thing -/
theorem ml_374 : sm_ml 374 = 1 := by decide +kernel
theorem np_374 : sm_np 374 = 0 := by decide +kernel
theorem rt_374 : sm_rt 374 = none := by decide +kernel
theorem fr_374_7 : sm_at mt_f (sm_ow 374) 7 = some (7, 13, 2, 0, 2773) := by decide +kernel
theorem dc_374_4 : decode (sm_cc 374) 4 = .ok (.aload_n 0, 1) := by decide +kernel
theorem dc_374_5 : decode (sm_cc 374) 5 = .ok (.iconst 4, 1) := by decide +kernel
theorem dc_374_6 : decode (sm_cc 374) 6 = .ok (.newarray .int, 2) := by decide +kernel
theorem dc_374_8 : decode (sm_cc 374) 8 = .ok (.putfield 7, 3) := by decide +kernel
theorem fr_374_13 : sm_at mt_f (sm_ow 374) 13 = some (13, 13, 3, 0, 2775) := by decide +kernel
theorem dc_374_11 : decode (sm_cc 374) 11 = .ok (.aload_n 0, 1) := by decide +kernel
theorem dc_374_12 : decode (sm_cc 374) 12 = .ok (.iconst 4, 1) := by decide +kernel
theorem dc_374_13 : decode (sm_cc 374) 13 = .ok (.newarray .int, 2) := by decide +kernel
theorem dc_374_15 : decode (sm_cc 374) 15 = .ok (.putfield 13, 3) := by decide +kernel
theorem fr_374_16 : sm_at mt_f (sm_ow 374) 16 = some (16, 13, 4, 0, 2777) := by decide +kernel
theorem dc_374_18 : decode (sm_cc 374) 18 = .ok (.aload_n 0, 1) := by decide +kernel
theorem dc_374_19 : decode (sm_cc 374) 19 = .ok (.iconst 4, 1) := by decide +kernel
theorem dc_374_20 : decode (sm_cc 374) 20 = .ok (.newarray .long, 2) := by decide +kernel
theorem dc_374_22 : decode (sm_cc 374) 22 = .ok (.putfield 16, 3) := by decide +kernel
theorem fr_374_20 : sm_at mt_f (sm_ow 374) 20 = some (20, 13, 5, 0, 2779) := by decide +kernel
theorem dc_374_25 : decode (sm_cc 374) 25 = .ok (.aload_n 0, 1) := by decide +kernel
theorem dc_374_26 : decode (sm_cc 374) 26 = .ok (.iconst 4, 1) := by decide +kernel
theorem dc_374_27 : decode (sm_cc 374) 27 = .ok (.newarray .long, 2) := by decide +kernel
theorem dc_374_29 : decode (sm_cc 374) 29 = .ok (.putfield 20, 3) := by decide +kernel
theorem fr_374_23 : sm_at mt_f (sm_ow 374) 23 = some (23, 13, 6, 0, 2781) := by decide +kernel
theorem dc_374_32 : decode (sm_cc 374) 32 = .ok (.aload_n 0, 1) := by decide +kernel
theorem dc_374_33 : decode (sm_cc 374) 33 = .ok (.iconst 4, 1) := by decide +kernel
theorem dc_374_34 : decode (sm_cc 374) 34 = .ok (.newarray .long, 2) := by decide +kernel
theorem dc_374_36 : decode (sm_cc 374) 36 = .ok (.putfield 23, 3) := by decide +kernel
theorem fr_374_26 : sm_at mt_f (sm_ow 374) 26 = some (26, 13, 7, 0, 2783) := by decide +kernel
theorem dc_374_39 : decode (sm_cc 374) 39 = .ok (.aload_n 0, 1) := by decide +kernel
theorem dc_374_40 : decode (sm_cc 374) 40 = .ok (.iconst 4, 1) := by decide +kernel
theorem dc_374_41 : decode (sm_cc 374) 41 = .ok (.newarray .long, 2) := by decide +kernel
theorem dc_374_43 : decode (sm_cc 374) 43 = .ok (.putfield 26, 3) := by decide +kernel
theorem dc_374_0 : decode (sm_cc 374) 0 = .ok (.aload_n 0, 1) := by decide +kernel
theorem dc_374_1 : decode (sm_cc 374) 1 = .ok (.invokespecial 1, 3) := by decide +kernel
theorem dc_374_46 : decode (sm_cc 374) 46 = .ok (.return_, 1) := by decide +kernel
/-- a thing as it is made -/
def ntS (S : cS) : cS := wV (100 * (108 + (sS S).length) + 8) .null (wV (100 * (108 + (sS S).length) + 7) .null (wV (100 * (108 + (sS S).length) + 6) .null (wV (100 * (108 + (sS S).length) + 5) .null (wV (100 * (108 + (sS S).length) + 4) .null (wV (100 * (108 + (sS S).length) + 3) .null (wV (100 * (108 + (sS S).length) + 2) .null (wI (100 * (108 + (sS S).length) + 12) 0 (wI (100 * (108 + (sS S).length) + 11) 0 (wI (100 * (108 + (sS S).length) + 10) 0 (wI (100 * (108 + (sS S).length) + 9) 0 (wI (100 * (108 + (sS S).length) + 1) 0 (wI (100 * (108 + (sS S).length) + 0) 0 (S)))))))))))))
theorem ntS_I (S : cS) (i : Nat) : sI (ntS S) i = if i = 100 * (108 + (sS S).length) + 12 ∨ i = 100 * (108 + (sS S).length) + 11 ∨ i = 100 * (108 + (sS S).length) + 10 ∨ i = 100 * (108 + (sS S).length) + 9 ∨ i = 100 * (108 + (sS S).length) + 1 ∨ i = 100 * (108 + (sS S).length) + 0 then 0 else sI S i := by
  show (if i = 100 * (108 + (sS S).length) + 12 then 0 else if i = 100 * (108 + (sS S).length) + 11 then 0 else if i = 100 * (108 + (sS S).length) + 10 then 0 else if i = 100 * (108 + (sS S).length) + 9 then 0 else if i = 100 * (108 + (sS S).length) + 1 then 0 else if i = 100 * (108 + (sS S).length) + 0 then 0 else sI S i) = _
  by_cases h : i = 100 * (108 + (sS S).length) + 12 ∨ i = 100 * (108 + (sS S).length) + 11 ∨ i = 100 * (108 + (sS S).length) + 10 ∨ i = 100 * (108 + (sS S).length) + 9 ∨ i = 100 * (108 + (sS S).length) + 1 ∨ i = 100 * (108 + (sS S).length) + 0
  · rw [if_pos h]
    repeat' split
    all_goals first | rfl | omega
  · rw [if_neg h]
    repeat' split
    all_goals first | rfl | omega
theorem ntS_V (S : cS) (i : Nat) (h : i < 100 * (108 + (sS S).length)) : sV (ntS S) i = sV S i := by
  show (if i = 100 * (108 + (sS S).length) + 8 then Value.null else if i = 100 * (108 + (sS S).length) + 7 then Value.null else if i = 100 * (108 + (sS S).length) + 6 then Value.null else if i = 100 * (108 + (sS S).length) + 5 then Value.null else if i = 100 * (108 + (sS S).length) + 4 then Value.null else if i = 100 * (108 + (sS S).length) + 3 then Value.null else if i = 100 * (108 + (sS S).length) + 2 then Value.null else sV S i) = _
  rw [if_neg (by omega), if_neg (by omega), if_neg (by omega), if_neg (by omega), if_neg (by omega), if_neg (by omega), if_neg (by omega)]
theorem mk_newthing (S : cS) : mk S ++ [.inr (13, sm_new 13)] = mk (wK (13, 0) 13 (ntS S)) :=
  mk_new (S1 := ntS S) (by
    unfold ntS
    rw [fx_V (by omega), fx_V (by omega), fx_V (by omega), fx_V (by omega), fx_V (by omega), fx_V (by omega), fx_V (by omega), fx_I (by omega), fx_I (by omega), fx_I (by omega), fx_I (by omega), fx_I (by omega), fx_I (by omega)]) rfl (fun b q h1 h2 => cell_congr q (fun i hi => by rw [ntS_I, if_neg (by omega)]) (fun _ _ => rfl) (fun i hi => ntS_V S _ (by omega)) rfl rfl) (by
    show Sum.inr (13, _) = Sum.inr (13, sm_new 13)
    have e : sm_new 13 = [.int 0, .int 0, .null, .null, .null, .null, .null, .null, .null, .int 0, .int 0, .int 0, .int 0] := rfl
    rw [e]
    have v0 : ∀ k, 2 ≤ k → k ≤ 8 → sV (ntS S) (100 * (108 + (sS S).length) + k) = .null := fun k h2 h8 => by
      show (if 100 * (108 + (sS S).length) + k = 100 * (108 + (sS S).length) + 8 then Value.null else if 100 * (108 + (sS S).length) + k = 100 * (108 + (sS S).length) + 7 then Value.null else if 100 * (108 + (sS S).length) + k = 100 * (108 + (sS S).length) + 6 then Value.null else if 100 * (108 + (sS S).length) + k = 100 * (108 + (sS S).length) + 5 then Value.null else if 100 * (108 + (sS S).length) + k = 100 * (108 + (sS S).length) + 4 then Value.null else if 100 * (108 + (sS S).length) + k = 100 * (108 + (sS S).length) + 3 then Value.null else if 100 * (108 + (sS S).length) + k = 100 * (108 + (sS S).length) + 2 then Value.null else sV S _) = _
      repeat' split
      all_goals first | rfl | omega
    have i0 : ∀ k, k = 0 ∨ k = 1 ∨ k = 9 ∨ k = 10 ∨ k = 11 ∨ k = 12 → sI (ntS S) (100 * (108 + (sS S).length) + k) = 0 := fun k hk => by rw [ntS_I, if_pos (by omega)]
    rw [v0 2 (by omega) (by omega), v0 3 (by omega) (by omega), v0 4 (by omega) (by omega), v0 5 (by omega) (by omega), v0 6 (by omega) (by omega), v0 7 (by omega) (by omega), v0 8 (by omega) (by omega), i0 0 (by omega), i0 1 (by omega), i0 9 (by omega), i0 10 (by omega), i0 11 (by omega), i0 12 (by omega)])
theorem Bod.newthing {d j pc q : Nat} {w : Nat × Nat × Nat} {k1 : Nat} {lv : sm_L} {st : List Value} {S Sf : cS} {v : Option Value} (hd : decode (sm_cc j) pc = .ok (.new q, 3)) (hk : sm_at mt_n (sm_ow j) q = some (k1, 13, w)) (h : Bod d j (pc + 3) lv (.ref (108 + (sS S).length) :: st) (wK (13, 0) 13 (ntS S)) v Sf) : Bod d j pc lv st S v Sf :=
  Bod.of (pc1 := pc + 3) (lv1 := lv) (st1 := .ref (108 + (sS S).length) :: st) (S1 := wK (13, 0) 13 (ntS S)) (fun cal n => by
    rw [sx_new hd hk, mk_len, mk_newthing]
    rfl) h
theorem nt_0 {d m : Nat} {S Sf : cS} {v : Option Value} {lv : sm_L} (hm : 108 ≤ m) (hl : sm_get lv 0 = some (.ref m)) (hs : (sS S)[m - 108]? = some (13, 0)) (h : Bod d 374 11 lv [] (arI m 2 4 S) v Sf) : Bod d 374 4 lv [] S v Sf := by
  refine Bod.aldnG dc_374_4 hl ?_
  refine Bod.ic 4 (by decide) dc_374_5 ?_
  refine Bod.newint (by decide) dc_374_6 ?_
  have hs' : (sS (wK (0, 4) 4 (wF (108 + (sS S).length) (fun _ => 0) S)))[m - 108]? = some (13, 0) := sS_old (l := [(0, 4)]) rfl hs
  exact Bod.put dc_374_8 fr_374_7 (mk_thing hm hs') (Nat.le_of_ble_eq_true rfl) pr_13_2 (st_thing_2 hm hs') (mu_V _ _ _) h
theorem nt_1 {d m : Nat} {S Sf : cS} {v : Option Value} {lv : sm_L} (hm : 108 ≤ m) (hl : sm_get lv 0 = some (.ref m)) (hs : (sS S)[m - 108]? = some (13, 0)) (h : Bod d 374 18 lv [] (arI m 3 4 S) v Sf) : Bod d 374 11 lv [] S v Sf := by
  refine Bod.aldnG dc_374_11 hl ?_
  refine Bod.ic 4 (by decide) dc_374_12 ?_
  refine Bod.newint (by decide) dc_374_13 ?_
  have hs' : (sS (wK (0, 4) 4 (wF (108 + (sS S).length) (fun _ => 0) S)))[m - 108]? = some (13, 0) := sS_old (l := [(0, 4)]) rfl hs
  exact Bod.put dc_374_15 fr_374_13 (mk_thing hm hs') (Nat.le_of_ble_eq_true rfl) pr_13_3 (st_thing_3 hm hs') (mu_V _ _ _) h
theorem nt_2 {d m : Nat} {S Sf : cS} {v : Option Value} {lv : sm_L} (hm : 108 ≤ m) (hl : sm_get lv 0 = some (.ref m)) (hs : (sS S)[m - 108]? = some (13, 0)) (h : Bod d 374 25 lv [] (arL m 4 4 S) v Sf) : Bod d 374 18 lv [] S v Sf := by
  refine Bod.aldnG dc_374_18 hl ?_
  refine Bod.ic 4 (by decide) dc_374_19 ?_
  refine Bod.newlong (by decide) dc_374_20 ?_
  have hs' : (sS (wK (1, 4) 4 (wG (108 + (sS S).length) (fun _ => 0) S)))[m - 108]? = some (13, 0) := sS_old (l := [(1, 4)]) rfl hs
  exact Bod.put dc_374_22 fr_374_16 (mk_thing hm hs') (Nat.le_of_ble_eq_true rfl) pr_13_4 (st_thing_4 hm hs') (mu_V _ _ _) h
theorem nt_3 {d m : Nat} {S Sf : cS} {v : Option Value} {lv : sm_L} (hm : 108 ≤ m) (hl : sm_get lv 0 = some (.ref m)) (hs : (sS S)[m - 108]? = some (13, 0)) (h : Bod d 374 32 lv [] (arL m 5 4 S) v Sf) : Bod d 374 25 lv [] S v Sf := by
  refine Bod.aldnG dc_374_25 hl ?_
  refine Bod.ic 4 (by decide) dc_374_26 ?_
  refine Bod.newlong (by decide) dc_374_27 ?_
  have hs' : (sS (wK (1, 4) 4 (wG (108 + (sS S).length) (fun _ => 0) S)))[m - 108]? = some (13, 0) := sS_old (l := [(1, 4)]) rfl hs
  exact Bod.put dc_374_29 fr_374_20 (mk_thing hm hs') (Nat.le_of_ble_eq_true rfl) pr_13_5 (st_thing_5 hm hs') (mu_V _ _ _) h
theorem nt_4 {d m : Nat} {S Sf : cS} {v : Option Value} {lv : sm_L} (hm : 108 ≤ m) (hl : sm_get lv 0 = some (.ref m)) (hs : (sS S)[m - 108]? = some (13, 0)) (h : Bod d 374 39 lv [] (arL m 6 4 S) v Sf) : Bod d 374 32 lv [] S v Sf := by
  refine Bod.aldnG dc_374_32 hl ?_
  refine Bod.ic 4 (by decide) dc_374_33 ?_
  refine Bod.newlong (by decide) dc_374_34 ?_
  have hs' : (sS (wK (1, 4) 4 (wG (108 + (sS S).length) (fun _ => 0) S)))[m - 108]? = some (13, 0) := sS_old (l := [(1, 4)]) rfl hs
  exact Bod.put dc_374_36 fr_374_23 (mk_thing hm hs') (Nat.le_of_ble_eq_true rfl) pr_13_6 (st_thing_6 hm hs') (mu_V _ _ _) h
theorem nt_5 {d m : Nat} {S Sf : cS} {v : Option Value} {lv : sm_L} (hm : 108 ≤ m) (hl : sm_get lv 0 = some (.ref m)) (hs : (sS S)[m - 108]? = some (13, 0)) (h : Bod d 374 46 lv [] (arL m 7 4 S) v Sf) : Bod d 374 39 lv [] S v Sf := by
  refine Bod.aldnG dc_374_39 hl ?_
  refine Bod.ic 4 (by decide) dc_374_40 ?_
  refine Bod.newlong (by decide) dc_374_41 ?_
  have hs' : (sS (wK (1, 4) 4 (wG (108 + (sS S).length) (fun _ => 0) S)))[m - 108]? = some (13, 0) := sS_old (l := [(1, 4)]) rfl hs
  exact Bod.put dc_374_43 fr_374_26 (mk_thing hm hs') (Nat.le_of_ble_eq_true rfl) pr_13_7 (st_thing_7 hm hs') (mu_V _ _ _) h
/-- its arrays -/
def thI (m : Nat) (S : cS) : cS := arL m 7 4 (arL m 6 4 (arL m 5 4 (arL m 4 4 (arI m 3 4 (arI m 2 4 (S))))))
theorem kx_374_1 : ∃ k1 w, sm_at mt_k (sm_ow 374) 1 = some (k1, 6, w) := ⟨((sm_at mt_k (sm_ow 374) 1).getD (0, 0, 0, 0, 0)).1, ((sm_at mt_k (sm_ow 374) 1).getD (0, 0, 0, 0, 0)).2.2, by decide +kernel⟩
theorem newThing_T {d m : Nat} {S : cS} (hm : 108 ≤ m) (h0 : (sS S)[m - 108]? = some (13, 0)) : Ans (d + 1) 374 [.ref m] S none (thI m S) := by
  refine Ans.of (by rw [ml_374]; exact Nat.le_of_ble_eq_true rfl) ?_
  refine Bod.aldnG dc_374_0 (x := m) rfl ?_
  obtain ⟨k1, w, hk⟩ := kx_374_1
  refine Bod.obj dc_374_1 hk (by decide) ?_
  refine nt_0 hm rfl h0 ?_
  have h1 : (sS (arI m 2 4 (S)))[m - 108]? = some (13, 0) := sS_old (l := [(0, 4)]) rfl h0
  refine nt_1 hm rfl h1 ?_
  have h2 : (sS (arI m 3 4 (arI m 2 4 (S))))[m - 108]? = some (13, 0) := sS_old (l := [(0, 4)]) rfl h1
  refine nt_2 hm rfl h2 ?_
  have h3 : (sS (arL m 4 4 (arI m 3 4 (arI m 2 4 (S)))))[m - 108]? = some (13, 0) := sS_old (l := [(1, 4)]) rfl h2
  refine nt_3 hm rfl h3 ?_
  have h4 : (sS (arL m 5 4 (arL m 4 4 (arI m 3 4 (arI m 2 4 (S))))))[m - 108]? = some (13, 0) := sS_old (l := [(1, 4)]) rfl h3
  refine nt_4 hm rfl h4 ?_
  have h5 : (sS (arL m 6 4 (arL m 5 4 (arL m 4 4 (arI m 3 4 (arI m 2 4 (S)))))))[m - 108]? = some (13, 0) := sS_old (l := [(1, 4)]) rfl h4
  refine nt_5 hm rfl h5 ?_
  exact Bod.retV dc_374_46 rt_374
