/-! NOTHING EXISTS: settle and count of the reference -/
theorem dc_368_5 : decode (sm_cc 368) 5 = .ok (.iload_n 2, 1) := by decide +kernel
theorem dc_368_6 : decode (sm_cc 368) 6 = .ok (.iload_n 3, 1) := by decide +kernel
theorem dc_368_7 : decode (sm_cc 368) 7 = .ok (.if_icmp .ge (13), 3) := by decide +kernel
theorem dc_368_20 : decode (sm_cc 368) 20 = .ok (.return_, 1) := by decide +kernel
theorem rt_368 : sm_rt 368 = none := by decide +kernel
theorem ml_368 : sm_ml 368 = 4 := by decide +kernel
theorem dc_368_10 : decode (sm_cc 368) 10 = .ok (.aload_n 0, 1) := by decide +kernel
theorem dc_368_11 : decode (sm_cc 368) 11 = .ok (.iload_n 2, 1) := by decide +kernel
theorem dc_368_12 : decode (sm_cc 368) 12 = .ok (.iload_n 1, 1) := by decide +kernel
theorem dc_368_13 : decode (sm_cc 368) 13 = .ok (.iastore, 1) := by decide +kernel
theorem dc_368_14 : decode (sm_cc 368) 14 = .ok (.iinc 2 (1), 3) := by decide +kernel
theorem dc_368_17 : decode (sm_cc 368) 17 = .ok (.goto (-12), 3) := by decide +kernel
theorem dc_368_0 : decode (sm_cc 368) 0 = .ok (.iconst 0, 1) := by decide +kernel
theorem dc_368_1 : decode (sm_cc 368) 1 = .ok (.istore_n 2, 1) := by decide +kernel
theorem dc_368_2 : decode (sm_cc 368) 2 = .ok (.aload_n 0, 1) := by decide +kernel
theorem dc_368_3 : decode (sm_cc 368) 3 = .ok (.arraylength, 1) := by decide +kernel
theorem dc_368_4 : decode (sm_cc 368) 4 = .ok (.istore_n 3, 1) := by decide +kernel
theorem dc_367_76 : decode (sm_cc 367) 76 = .ok (.return_, 1) := by decide +kernel
theorem rt_367 : sm_rt 367 = none := by decide +kernel
theorem dc_367_43 : decode (sm_cc 367) 43 = .ok (.iload_n 1, 1) := by decide +kernel
theorem dc_367_44 : decode (sm_cc 367) 44 = .ok (.sipush (1500), 3) := by decide +kernel
theorem dc_367_47 : decode (sm_cc 367) 47 = .ok (.if_icmp .ge (29), 3) := by decide +kernel
theorem fr_367_481 : sm_at mt_f (sm_ow 367) 481 = some (481, 14, 43, 0, 2116) := by decide +kernel
theorem ml_367 : sm_ml 367 = 2 := by decide +kernel
theorem dc_367_50 : decode (sm_cc 367) 50 = .ok (.aload_n 0, 1) := by decide +kernel
theorem dc_367_51 : decode (sm_cc 367) 51 = .ok (.getfield 481, 3) := by decide +kernel
theorem dc_367_54 : decode (sm_cc 367) 54 = .ok (.iload_n 1, 1) := by decide +kernel
theorem dc_367_55 : decode (sm_cc 367) 55 = .ok (.baload, 1) := by decide +kernel
theorem dc_367_56 : decode (sm_cc 367) 56 = .ok (.ifCond .eq (14), 3) := by decide +kernel
theorem dc_367_70 : decode (sm_cc 367) 70 = .ok (.iinc 1 (1), 3) := by decide +kernel
theorem dc_367_73 : decode (sm_cc 367) 73 = .ok (.goto (-30), 3) := by decide +kernel
theorem fr_367_456 : sm_at mt_f (sm_ow 367) 456 = some (456, 14, 45, 0, 2118) := by decide +kernel
theorem kr_367_478 : sm_at mt_k (sm_ow 367) 478 = some (478, 2, 368, 0, 2742) := by decide +kernel
theorem np_368 : sm_np 368 = 2 := by decide +kernel
theorem fr_367_1 : sm_at mt_f (sm_ow 367) 1 = some (1, 14, 2, 0, 2075) := by decide +kernel
theorem dc_367_0 : decode (sm_cc 367) 0 = .ok (.aload_n 0, 1) := by decide +kernel
theorem dc_367_1 : decode (sm_cc 367) 1 = .ok (.getfield 456, 3) := by decide +kernel
theorem dc_367_4 : decode (sm_cc 367) 4 = .ok (.iconst 0, 1) := by decide +kernel
theorem dc_367_5 : decode (sm_cc 367) 5 = .ok (.invokestatic 478, 3) := by decide +kernel
theorem dc_367_8 : decode (sm_cc 367) 8 = .ok (.iconst 0, 1) := by decide +kernel
theorem dc_367_9 : decode (sm_cc 367) 9 = .ok (.istore_n 1, 1) := by decide +kernel
theorem dc_367_10 : decode (sm_cc 367) 10 = .ok (.iload_n 1, 1) := by decide +kernel
theorem dc_367_11 : decode (sm_cc 367) 11 = .ok (.aload_n 0, 1) := by decide +kernel
theorem dc_367_12 : decode (sm_cc 367) 12 = .ok (.getfield 1, 3) := by decide +kernel
theorem dc_367_15 : decode (sm_cc 367) 15 = .ok (.if_icmp .ge (26), 3) := by decide +kernel
theorem dc_367_41 : decode (sm_cc 367) 41 = .ok (.iconst 0, 1) := by decide +kernel
theorem dc_367_42 : decode (sm_cc 367) 42 = .ok (.istore_n 1, 1) := by decide +kernel
theorem ml_371 : sm_ml 371 = 3 := by decide +kernel
theorem fr_371_493 : sm_at mt_f (sm_ow 371) 493 = some (493, 14, 51, 0, 2124) := by decide +kernel
theorem fr_371_502 : sm_at mt_f (sm_ow 371) 502 = some (502, 14, 59, 0, 2132) := by decide +kernel
theorem dc_371_0 : decode (sm_cc 371) 0 = .ok (.iconst 0, 1) := by decide +kernel
theorem dc_371_1 : decode (sm_cc 371) 1 = .ok (.istore_n 2, 1) := by decide +kernel
theorem dc_371_2 : decode (sm_cc 371) 2 = .ok (.iload_n 2, 1) := by decide +kernel
theorem dc_371_3 : decode (sm_cc 371) 3 = .ok (.aload_n 0, 1) := by decide +kernel
theorem dc_371_4 : decode (sm_cc 371) 4 = .ok (.getfield 493, 3) := by decide +kernel
theorem dc_371_7 : decode (sm_cc 371) 7 = .ok (.if_icmp .ge (26), 3) := by decide +kernel
theorem dc_371_33 : decode (sm_cc 371) 33 = .ok (.iconst 0, 1) := by decide +kernel
theorem dc_371_34 : decode (sm_cc 371) 34 = .ok (.istore_n 2, 1) := by decide +kernel
theorem dc_371_35 : decode (sm_cc 371) 35 = .ok (.iload_n 2, 1) := by decide +kernel
theorem dc_371_36 : decode (sm_cc 371) 36 = .ok (.aload_n 0, 1) := by decide +kernel
theorem dc_371_37 : decode (sm_cc 371) 37 = .ok (.getfield 502, 3) := by decide +kernel
theorem dc_371_40 : decode (sm_cc 371) 40 = .ok (.if_icmp .ge (33), 3) := by decide +kernel
theorem dc_371_73 : decode (sm_cc 371) 73 = .ok (.return_, 1) := by decide +kernel
theorem rt_371 : sm_rt 371 = none := by decide +kernel
theorem dc_366_64 : decode (sm_cc 366) 64 = .ok (.iload_n 1, 1) := by decide +kernel
theorem dc_366_65 : decode (sm_cc 366) 65 = .ok (.ifCond .le (34), 3) := by decide +kernel
theorem dc_366_99 : decode (sm_cc 366) 99 = .ok (.return_, 1) := by decide +kernel
theorem rt_366 : sm_rt 366 = none := by decide +kernel
theorem dc_366_13 : decode (sm_cc 366) 13 = .ok (.iload_n 2, 1) := by decide +kernel
theorem dc_366_14 : decode (sm_cc 366) 14 = .ok (.sipush (1500), 3) := by decide +kernel
theorem dc_366_17 : decode (sm_cc 366) 17 = .ok (.if_icmp .ge (47), 3) := by decide +kernel
theorem fr_366_481 : sm_at mt_f (sm_ow 366) 481 = some (481, 14, 43, 0, 2116) := by decide +kernel
theorem ml_366 : sm_ml 366 = 3 := by decide +kernel
theorem dc_366_20 : decode (sm_cc 366) 20 = .ok (.aload_n 0, 1) := by decide +kernel
theorem dc_366_21 : decode (sm_cc 366) 21 = .ok (.getfield 481, 3) := by decide +kernel
theorem dc_366_24 : decode (sm_cc 366) 24 = .ok (.iload_n 2, 1) := by decide +kernel
theorem dc_366_25 : decode (sm_cc 366) 25 = .ok (.baload, 1) := by decide +kernel
theorem dc_366_26 : decode (sm_cc 366) 26 = .ok (.ifCond .eq (32), 3) := by decide +kernel
theorem dc_366_58 : decode (sm_cc 366) 58 = .ok (.iinc 2 (1), 3) := by decide +kernel
theorem dc_366_61 : decode (sm_cc 366) 61 = .ok (.goto (-48), 3) := by decide +kernel
theorem ow_367 : 14 = sm_ow 367 := by decide +kernel
theorem kr_366_508 : sm_at mt_k (sm_ow 366) 508 = some (508, 0, 367, 0, 2738) := by decide +kernel
theorem cl_14 : 14 < mt_cl.length := by decide +kernel
theorem np_367 : sm_np 367 = 0 := by decide +kernel
theorem ow_371 : 14 = sm_ow 371 := by decide +kernel
theorem kr_366_511 : sm_at mt_k (sm_ow 366) 511 = some (511, 0, 371, 0, 2753) := by decide +kernel
theorem np_371 : sm_np 371 = 1 := by decide +kernel
theorem dc_366_0 : decode (sm_cc 366) 0 = .ok (.aload_n 0, 1) := by decide +kernel
theorem dc_366_1 : decode (sm_cc 366) 1 = .ok (.invokevirtual 508, 3) := by decide +kernel
theorem dc_366_4 : decode (sm_cc 366) 4 = .ok (.aload_n 0, 1) := by decide +kernel
theorem dc_366_5 : decode (sm_cc 366) 5 = .ok (.iconst 1, 1) := by decide +kernel
theorem dc_366_6 : decode (sm_cc 366) 6 = .ok (.invokevirtual 511, 3) := by decide +kernel
theorem dc_366_9 : decode (sm_cc 366) 9 = .ok (.iconst 0, 1) := by decide +kernel
theorem dc_366_10 : decode (sm_cc 366) 10 = .ok (.istore_n 1, 1) := by decide +kernel
theorem dc_366_11 : decode (sm_cc 366) 11 = .ok (.iconst 0, 1) := by decide +kernel
theorem dc_366_12 : decode (sm_cc 366) 12 = .ok (.istore_n 2, 1) := by decide +kernel
theorem dc_423_112 : decode (sm_cc 423) 112 = .ok (.iload_n 2, 1) := by decide +kernel
theorem dc_423_113 : decode (sm_cc 423) 113 = .ok (.ireturn, 1) := by decide +kernel
theorem dc_423_70 : decode (sm_cc 423) 70 = .ok (.iload_n 3, 1) := by decide +kernel
theorem dc_423_71 : decode (sm_cc 423) 71 = .ok (.sipush (1500), 3) := by decide +kernel
theorem dc_423_74 : decode (sm_cc 423) 74 = .ok (.if_icmp .ge (38), 3) := by decide +kernel
theorem fr_423_481 : sm_at mt_f (sm_ow 423) 481 = some (481, 14, 43, 0, 2116) := by decide +kernel
theorem dc_423_77 : decode (sm_cc 423) 77 = .ok (.aload_n 0, 1) := by decide +kernel
theorem dc_423_78 : decode (sm_cc 423) 78 = .ok (.getfield 481, 3) := by decide +kernel
theorem dc_423_81 : decode (sm_cc 423) 81 = .ok (.iload_n 3, 1) := by decide +kernel
theorem dc_423_82 : decode (sm_cc 423) 82 = .ok (.baload, 1) := by decide +kernel
theorem dc_423_83 : decode (sm_cc 423) 83 = .ok (.ifCond .eq (23), 3) := by decide +kernel
theorem dc_423_106 : decode (sm_cc 423) 106 = .ok (.iinc 3 (1), 3) := by decide +kernel
theorem dc_423_109 : decode (sm_cc 423) 109 = .ok (.goto (-39), 3) := by decide +kernel
theorem ow_366 : 14 = sm_ow 366 := by decide +kernel
theorem kr_423_527 : sm_at mt_k (sm_ow 423) 527 = some (527, 0, 366, 0, 2734) := by decide +kernel
theorem np_366 : sm_np 366 = 0 := by decide +kernel
theorem dc_423_14 : decode (sm_cc 423) 14 = .ok (.aload_n 0, 1) := by decide +kernel
theorem dc_423_15 : decode (sm_cc 423) 15 = .ok (.invokevirtual 527, 3) := by decide +kernel
theorem dc_423_18 : decode (sm_cc 423) 18 = .ok (.iconst 0, 1) := by decide +kernel
theorem dc_423_19 : decode (sm_cc 423) 19 = .ok (.istore_n 2, 1) := by decide +kernel
theorem dc_423_20 : decode (sm_cc 423) 20 = .ok (.iload_n 1, 1) := by decide +kernel
theorem dc_423_21 : decode (sm_cc 423) 21 = .ok (.bipush (9), 2) := by decide +kernel
theorem fr_423_561 : sm_at mt_f (sm_ow 423) 561 = some (561, 14, 66, 0, 2139) := by decide +kernel
theorem dc_423_23 : decode (sm_cc 423) 23 = .ok (.if_icmp .ne (8), 3) := by decide +kernel
theorem dc_423_26 : decode (sm_cc 423) 26 = .ok (.aload_n 0, 1) := by decide +kernel
theorem dc_423_27 : decode (sm_cc 423) 27 = .ok (.getfield 561, 3) := by decide +kernel
theorem dc_423_30 : decode (sm_cc 423) 30 = .ok (.ireturn, 1) := by decide +kernel
theorem fr_423_1 : sm_at mt_f (sm_ow 423) 1 = some (1, 14, 2, 0, 2075) := by decide +kernel
theorem dc_423_31 : decode (sm_cc 423) 31 = .ok (.iload_n 1, 1) := by decide +kernel
theorem dc_423_32 : decode (sm_cc 423) 32 = .ok (.bipush (8), 2) := by decide +kernel
theorem dc_423_34 : decode (sm_cc 423) 34 = .ok (.if_icmp .ne (34), 3) := by decide +kernel
theorem dc_423_37 : decode (sm_cc 423) 37 = .ok (.iconst 0, 1) := by decide +kernel
theorem dc_423_38 : decode (sm_cc 423) 38 = .ok (.istore_n 3, 1) := by decide +kernel
theorem dc_423_39 : decode (sm_cc 423) 39 = .ok (.iload_n 3, 1) := by decide +kernel
theorem dc_423_40 : decode (sm_cc 423) 40 = .ok (.aload_n 0, 1) := by decide +kernel
theorem dc_423_41 : decode (sm_cc 423) 41 = .ok (.getfield 1, 3) := by decide +kernel
theorem dc_423_44 : decode (sm_cc 423) 44 = .ok (.if_icmp .ge (22), 3) := by decide +kernel
theorem dc_423_66 : decode (sm_cc 423) 66 = .ok (.iload_n 2, 1) := by decide +kernel
theorem dc_423_67 : decode (sm_cc 423) 67 = .ok (.ireturn, 1) := by decide +kernel
theorem dc_423_68 : decode (sm_cc 423) 68 = .ok (.iconst 0, 1) := by decide +kernel
theorem dc_423_69 : decode (sm_cc 423) 69 = .ok (.istore_n 3, 1) := by decide +kernel
theorem el_0 : 0 < mt_el.length := by decide +kernel
theorem fi_loop {X : Option (Nat × (Nat → Int32))} {σ : sm_H} {u : Nat} {cal : Nat → List Value → sm_H → Nat → Option sm_R} {a N n : Nat} {g : Nat → Int32} {v : Int32} (hN : N < 2 ^ 31) (ha : σ[a]? = some (.inl (0, N, .inl g))) : ∀ (r i : Nat) (lv : sm_L), i + r = N → sm_get lv 0 = some (.ref a) → sm_get lv 1 = some (.int v) → sm_get lv 2 = some (.int (nI i)) → sm_get lv 3 = some (.int (nI N)) → sm_run X cal 368 (n + (9 * r + 4)) (5, lv, [], σ.set a (.inl (0, N, .inl (fl_f g v i))), u) = some (none, σ.set a (.inl (0, N, .inl (fl_f g v N))), u) := by
  have hl : a < σ.length := (List.getElem?_eq_some_iff.mp ha).1
  intro r
  induction r with
  | zero =>
    intro i lv hi h0 h1 h2 h3
    obtain rfl : i = N := by omega
    have e : n + (9 * 0 + 4) = n + 4 := by omega
    rw [e]
    refine (sx_iload_n dc_368_5 h2).trans ?_
    refine (sx_iload_n dc_368_6 h3).trans ?_
    refine (sx_ic_t dc_368_7 rfl (if_pos (nI_le (Nat.le_refl _) hN))).trans ?_
    exact sx_ret_void dc_368_20 rt_368
  | succ r ih =>
    intro i lv hi h0 h1 h2 h3
    have e : n + (9 * (r + 1) + 4) = (n + (9 * r + 4)) + 9 := by omega
    rw [e]
    have hc : (σ.set a (.inl (0, N, .inl (fl_f g v i))))[a]? = some (.inl (0, N, .inl (fl_f g v i))) := List.getElem?_set_self hl
    refine (sx_iload_n dc_368_5 h2).trans ?_
    refine (sx_iload_n dc_368_6 h3).trans ?_
    refine (sx_ic_f dc_368_7 rfl (if_neg (nI_ge (by omega) hN))).trans ?_
    refine (sx_aload_n dc_368_10 h0).trans ?_
    refine (sx_iload_n dc_368_11 h2).trans ?_
    refine (sx_iload_n dc_368_12 h1).trans ?_
    refine (sx_iast dc_368_13 hc (nI_in (by omega) hN)).trans ?_
    refine (sx_iinc dc_368_14 (by rw [ml_368]; exact Nat.le_of_ble_eq_true rfl) h2).trans ?_
    refine (sx_go dc_368_17 rfl).trans ?_
    have h := ih (i + 1) (sm_p1 lv 2 (.int (nI (i + 1)))) (by omega) (sm_get_p1n (by decide) rfl h0) (sm_get_p1n (by decide) rfl h1) sm_get_p1 (sm_get_p1n (by decide) rfl h3)
    rw [nI_succ] at h
    rw [List.set_set, nI_clamp (show i < 2 ^ 31 by omega)]
    exact h
theorem fi_ev {X : Option (Nat × (Nat → Int32))} {σ : sm_H} {u : Nat} {d n a N : Nat} {g : Nat → Int32} {v : Int32} (hN : N < 2 ^ 31) (ha : σ[a]? = some (.inl (0, N, .inl g))) (hn : 9 * N + 20 ≤ n) : sm_ev X (d + 1) n 368 [.ref a, .int v] σ u = some (none, σ.set a (.inl (0, N, .inl (fl_f g v N))), u) := by
  rw [sx_ev (by rw [ml_368]; exact Nat.le_of_ble_eq_true rfl)]
  obtain ⟨k, rfl⟩ : ∃ k, n = (k + (9 * N + 4)) + 5 := ⟨n - (9 * N + 9), by omega⟩
  refine (sx_go dc_368_0 rfl).trans ?_
  refine (sx_istore_n dc_368_1 (by rw [ml_368]; exact Nat.le_of_ble_eq_true rfl)).trans ?_
  refine (sx_go dc_368_2 rfl).trans ?_
  refine (sx_alen dc_368_3 ha el_0).trans ?_
  refine (sx_istore_n dc_368_4 (by rw [ml_368]; exact Nat.le_of_ble_eq_true rfl)).trans ?_
  have h := fi_loop (X := X) (u := u) (cal := sm_ev X d (k + (9 * N + 4) + 5)) (n := k) (v := v) hN ha N 0 (sm_p1 (sm_p1 (lv_args 0 [.ref a, .int v]) 2 (.int 0)) 3 (.int (nI N))) (by omega) rfl rfl rfl rfl
  have e : σ.set a (.inl (0, N, .inl (fl_f g v 0))) = σ := by
    obtain ⟨h1, h2⟩ := List.getElem?_eq_some_iff.mp ha
    rw [show fl_f g v 0 = g from rfl, ← h2]
    exact List.set_getElem_self h1
  rw [e] at h
  exact h
/-- nothing exists, nothing is under way: the reference m, what exists e, the holders q -/
def sz_Z (σ : sm_H) (m e q : Nat) (fs : List Value) (g : Nat → Int32) : Prop := σ[m]? = some (.inr (14, fs)) ∧ fs[2]? = some (.int 0) ∧ fs[51]? = some (.int 0) ∧ fs[59]? = some (.int 0) ∧ fs[43]? = some (.ref e) ∧ fs[45]? = some (.ref q) ∧ fs[66]? = some (.int 0) ∧ σ[e]? = some (.inl (3, 1500, .inl (fun _ => 0))) ∧ σ[q]? = some (.inl (0, 1500, .inl g)) ∧ e ≠ q ∧ q ≠ m
theorem sz_set {σ : sm_H} {m e q : Nat} {fs : List Value} {g h : Nat → Int32} (hZ : sz_Z σ m e q fs g) : sz_Z (σ.set q (.inl (0, 1500, .inl h))) m e q fs h := by
  obtain ⟨h1, h2, h3, h4, h5, h6, h7, h8, h9, h10, h11⟩ := hZ
  refine ⟨?_, h2, h3, h4, h5, h6, h7, ?_, ?_, h10, h11⟩
  · rw [List.getElem?_set_ne h11]
    exact h1
  · rw [List.getElem?_set_ne (fun e => h10 e.symm)]
    exact h8
  · exact List.getElem?_set_self (List.getElem?_eq_some_iff.mp h9).1
theorem sz_fd {σ : sm_H} {m k : Nat} {fs : List Value} {v : Value} (h1 : σ[m]? = some (.inr (14, fs))) (h2 : fs[k]? = some v) : sx_fd σ m 14 k = some v := by
  unfold sx_fd
  rw [h1]
  exact h2
theorem sz_ob {σ : sm_H} {m : Nat} {fs : List Value} (h1 : σ[m]? = some (.inr (14, fs))) : sx_ob σ m = some 14 := by
  unfold sx_ob
  rw [h1]
theorem sz_1500 : (Int16.ofInt 1500).toInt32 = nI 1500 := by decide
theorem cn_loop {X : Option (Nat × (Nat → Int32))} {σ : sm_H} {u : Nat} {cal : Nat → List Value → sm_H → Nat → Option sm_R} {n m e q : Nat} {fs : List Value} {g : Nat → Int32} (hZ : sz_Z σ m e q fs g) : ∀ (r k : Nat), k + r = 1500 → sm_run X cal 367 (n + (10 * r + 4)) (43, [(1, .int (nI k)), (0, .ref m)], [], σ, u) = some (none, σ, u) := by
  obtain ⟨h1, h2, h3, h4, h5, h6, h7, h8, h9, h10, h11⟩ := hZ
  intro r
  induction r with
  | zero =>
    intro k hk
    obtain rfl : k = 1500 := by omega
    have e : n + (10 * 0 + 4) = n + 4 := by omega
    rw [e]
    refine (sx_go dc_367_43 rfl).trans ?_
    refine (sx_go dc_367_44 rfl).trans ?_
    refine (sx_ic_t dc_367_47 rfl (by decide)).trans ?_
    exact sx_ret_void dc_367_76 rt_367
  | succ r ih =>
    intro k hk
    have e : n + (10 * (r + 1) + 4) = (n + (10 * r + 4)) + 10 := by omega
    rw [e]
    refine (sx_go dc_367_43 rfl).trans ?_
    refine (sx_go dc_367_44 rfl).trans ?_
    refine (sx_ic_f dc_367_47 rfl (by rw [sz_1500]; exact if_neg (nI_ge (a := k) (b := 1500) (by omega) (by decide)))).trans ?_
    refine (sx_go dc_367_50 rfl).trans ?_
    refine (sx_getfield dc_367_51 fr_367_481 (sz_fd h1 h5)).trans ?_
    refine (sx_go dc_367_54 rfl).trans ?_
    refine (sx_bald dc_367_55 h8 (Or.inr rfl) (nI_in (by omega) (by decide))).trans ?_
    refine (sx_if_t dc_367_56 rfl (if_pos rfl)).trans ?_
    refine (sx_iinc dc_367_70 (by rw [ml_367]; exact Nat.le_of_ble_eq_true rfl) rfl).trans ?_
    refine (sx_go dc_367_73 rfl).trans ?_
    have h := ih (k + 1) (by omega)
    rw [nI_succ] at h
    exact h
theorem cn_ev {X : Option (Nat × (Nat → Int32))} {σ : sm_H} {u : Nat} {d n m e q : Nat} {fs : List Value} {g : Nat → Int32} (hZ : sz_Z σ m e q fs g) (hn : 20000 ≤ n) : sm_ev X (d + 2) n 367 [.ref m] σ u = some (none, σ.set q (.inl (0, 1500, .inl (fl_f g 0 1500))), u) := by
  rw [sx_ev (by rw [ml_367]; exact Nat.le_of_ble_eq_true rfl)]
  have hZ1 := sz_set (h := fl_f g 0 1500) hZ
  have hl := fun cal n => cn_loop (X := X) (u := u) (cal := cal) (n := n) hZ1 1500 0 (by omega)
  obtain ⟨h1, h2, h3, h4, h5, h6, h7, h8, h9, h10, h11⟩ := hZ
  obtain ⟨i1, -⟩ := hZ1
  obtain ⟨k, rfl⟩ : ∃ k, n = k + 20000 := ⟨n - 20000, by omega⟩
  refine (sx_go dc_367_0 rfl).trans ?_
  refine (sx_getfield dc_367_1 fr_367_456 (sz_fd h1 h6)).trans ?_
  refine (sx_go dc_367_4 rfl).trans ?_
  refine (sx_stat (st := [.int 0, .ref q]) (v := none) dc_367_5 kr_367_478 (Or.inl rfl) (by rw [np_368]; exact Nat.le_of_ble_eq_true rfl) (by rw [np_368]; exact Nat.le_of_ble_eq_true rfl) (by rw [np_368]; exact fi_ev (by decide) h9 (by omega))).trans ?_
  rw [np_368]
  show sm_run _ _ _ _ (_, _, [], _, _) = _
  refine (sx_go dc_367_8 rfl).trans ?_
  refine (sx_istore_n dc_367_9 (by rw [ml_367]; exact Nat.le_of_ble_eq_true rfl)).trans ?_
  refine (sx_go dc_367_10 rfl).trans ?_
  refine (sx_go dc_367_11 rfl).trans ?_
  refine (sx_getfield dc_367_12 fr_367_1 (sz_fd i1 h2)).trans ?_
  refine (sx_ic_t dc_367_15 rfl (by decide)).trans ?_
  refine (sx_go dc_367_41 rfl).trans ?_
  refine (sx_istore_n dc_367_42 (by rw [ml_367]; exact Nat.le_of_ble_eq_true rfl)).trans ?_
  rw [show k + 19988 = k + 4984 + (10 * 1500 + 4) by omega]
  exact hl _ _
theorem cw_ev {X : Option (Nat × (Nat → Int32))} {σ : sm_H} {u : Nat} {d n m e q : Nat} {fs : List Value} {g : Nat → Int32} {v : Int32} (hZ : sz_Z σ m e q fs g) (hn : 20000 ≤ n) : sm_ev X (d + 1) n 371 [.ref m, .int v] σ u = some (none, σ, u) := by
  rw [sx_ev (by rw [ml_371]; exact Nat.le_of_ble_eq_true rfl)]
  obtain ⟨h1, h2, h3, h4, h5, h6, h7, h8, h9, h10, h11⟩ := hZ
  obtain ⟨k, rfl⟩ : ∃ k, n = k + 20000 := ⟨n - 20000, by omega⟩
  refine (sx_go dc_371_0 rfl).trans ?_
  refine (sx_istore_n dc_371_1 (by rw [ml_371]; exact Nat.le_of_ble_eq_true rfl)).trans ?_
  refine (sx_go dc_371_2 rfl).trans ?_
  refine (sx_go dc_371_3 rfl).trans ?_
  refine (sx_getfield dc_371_4 fr_371_493 (sz_fd h1 h3)).trans ?_
  refine (sx_ic_t dc_371_7 rfl (by decide)).trans ?_
  refine (sx_go dc_371_33 rfl).trans ?_
  refine (sx_istore_n dc_371_34 (by rw [ml_371]; exact Nat.le_of_ble_eq_true rfl)).trans ?_
  refine (sx_go dc_371_35 rfl).trans ?_
  refine (sx_go dc_371_36 rfl).trans ?_
  refine (sx_getfield dc_371_37 fr_371_502 (sz_fd h1 h4)).trans ?_
  refine (sx_ic_t dc_371_40 rfl (by decide)).trans ?_
  exact sx_ret_void dc_371_73 rt_371
theorem se_loop {X : Option (Nat × (Nat → Int32))} {σ : sm_H} {u : Nat} {cal : Nat → List Value → sm_H → Nat → Option sm_R} {n m e q : Nat} {fs : List Value} {g : Nat → Int32} (hZ : sz_Z σ m e q fs g) : ∀ (r k : Nat), k + r = 1500 → sm_run X cal 366 (n + (10 * r + 6)) (13, [(2, .int (nI k)), (1, .int 0), (0, .ref m)], [], σ, u) = some (none, σ, u) := by
  obtain ⟨h1, h2, h3, h4, h5, h6, h7, h8, h9, h10, h11⟩ := hZ
  intro r
  induction r with
  | zero =>
    intro k hk
    obtain rfl : k = 1500 := by omega
    have e : n + (10 * 0 + 6) = n + 6 := by omega
    rw [e]
    refine (sx_go dc_366_13 rfl).trans ?_
    refine (sx_go dc_366_14 rfl).trans ?_
    refine (sx_ic_t dc_366_17 rfl (by decide)).trans ?_
    refine (sx_go dc_366_64 rfl).trans ?_
    refine (sx_if_t dc_366_65 rfl (by decide)).trans ?_
    exact sx_ret_void dc_366_99 rt_366
  | succ r ih =>
    intro k hk
    have e : n + (10 * (r + 1) + 6) = (n + (10 * r + 6)) + 10 := by omega
    rw [e]
    refine (sx_go dc_366_13 rfl).trans ?_
    refine (sx_go dc_366_14 rfl).trans ?_
    refine (sx_ic_f dc_366_17 rfl (by rw [sz_1500]; exact if_neg (nI_ge (a := k) (b := 1500) (by omega) (by decide)))).trans ?_
    refine (sx_go dc_366_20 rfl).trans ?_
    refine (sx_getfield dc_366_21 fr_366_481 (sz_fd h1 h5)).trans ?_
    refine (sx_go dc_366_24 rfl).trans ?_
    refine (sx_bald dc_366_25 h8 (Or.inr rfl) (nI_in (by omega) (by decide))).trans ?_
    refine (sx_if_t dc_366_26 rfl (if_pos rfl)).trans ?_
    refine (sx_iinc dc_366_58 (by rw [ml_366]; exact Nat.le_of_ble_eq_true rfl) rfl).trans ?_
    refine (sx_go dc_366_61 rfl).trans ?_
    have h := ih (k + 1) (by omega)
    rw [nI_succ] at h
    exact h
theorem se_ev {X : Option (Nat × (Nat → Int32))} {σ : sm_H} {u : Nat} {d n m e q : Nat} {fs : List Value} {g : Nat → Int32} (hZ : sz_Z σ m e q fs g) (hn : 20000 ≤ n) : sm_ev X (d + 3) n 366 [.ref m] σ u = some (none, σ.set q (.inl (0, 1500, .inl (fl_f g 0 1500))), u) := by
  rw [sx_ev (by rw [ml_366]; exact Nat.le_of_ble_eq_true rfl)]
  have hZ1 := sz_set (h := fl_f g 0 1500) hZ
  have hl := fun cal n => se_loop (X := X) (u := u) (cal := cal) (n := n) hZ1 1500 0 (by omega)
  have h1 := hZ.1
  have i1 := hZ1.1
  obtain ⟨k, rfl⟩ : ∃ k, n = k + 20000 := ⟨n - 20000, by omega⟩
  refine (sx_go dc_366_0 rfl).trans ?_
  refine (sx_virt (r := []) (v := none) dc_366_1 kr_366_508 ⟨Or.inl rfl, ow_367, cl_14⟩ (by rw [np_367]; rfl) (sz_ob h1) (Nat.le_of_ble_eq_true rfl) (by rw [np_367]; exact cn_ev hZ hn)).trans ?_
  show sm_run _ _ _ _ (_, _, [], _, _) = _
  refine (sx_go dc_366_4 rfl).trans ?_
  refine (sx_go dc_366_5 rfl).trans ?_
  refine (sx_virt (r := []) (v := none) dc_366_6 kr_366_511 ⟨Or.inl rfl, ow_371, cl_14⟩ (by rw [np_371]; rfl) (sz_ob i1) (Nat.le_of_ble_eq_true rfl) (by rw [np_371]; exact cw_ev hZ1 hn)).trans ?_
  show sm_run _ _ _ _ (_, _, [], _, _) = _
  refine (sx_go dc_366_9 rfl).trans ?_
  refine (sx_istore_n dc_366_10 (by rw [ml_366]; exact Nat.le_of_ble_eq_true rfl)).trans ?_
  refine (sx_go dc_366_11 rfl).trans ?_
  refine (sx_istore_n dc_366_12 (by rw [ml_366]; exact Nat.le_of_ble_eq_true rfl)).trans ?_
  rw [show k + 19991 = k + 4985 + (10 * 1500 + 6) by omega]
  exact hl _ _
theorem co_loop {X : Option (Nat × (Nat → Int32))} {σ : sm_H} {u : Nat} {cal : Nat → List Value → sm_H → Nat → Option sm_R} {n m e q : Nat} {fs : List Value} {g : Nat → Int32} {v : Int32} (hZ : sz_Z σ m e q fs g) : ∀ (r k : Nat), k + r = 1500 → sm_run X cal 423 (n + (10 * r + 5)) (70, [(3, .int (nI k)), (2, .int 0)] ++ lv_args 0 [.ref m, .int v], [], σ, u) = some (some (.int 0), σ, u) := by
  obtain ⟨h1, h2, h3, h4, h5, h6, h7, h8, h9, h10, h11⟩ := hZ
  intro r
  induction r with
  | zero =>
    intro k hk
    obtain rfl : k = 1500 := by omega
    have e : n + (10 * 0 + 5) = n + 5 := by omega
    rw [e]
    refine (sx_go dc_423_70 rfl).trans ?_
    refine (sx_go dc_423_71 rfl).trans ?_
    refine (sx_ic_t dc_423_74 rfl (by decide)).trans ?_
    refine (sx_go dc_423_112 rfl).trans ?_
    exact sx_ret_int dc_423_113 rt_423
  | succ r ih =>
    intro k hk
    have e : n + (10 * (r + 1) + 5) = (n + (10 * r + 5)) + 10 := by omega
    rw [e]
    refine (sx_go dc_423_70 rfl).trans ?_
    refine (sx_go dc_423_71 rfl).trans ?_
    refine (sx_ic_f dc_423_74 rfl (by rw [sz_1500]; exact if_neg (nI_ge (a := k) (b := 1500) (by omega) (by decide)))).trans ?_
    refine (sx_go dc_423_77 rfl).trans ?_
    refine (sx_getfield dc_423_78 fr_423_481 (sz_fd h1 h5)).trans ?_
    refine (sx_go dc_423_81 rfl).trans ?_
    refine (sx_bald dc_423_82 h8 (Or.inr rfl) (nI_in (by omega) (by decide))).trans ?_
    refine (sx_if_t dc_423_83 rfl (if_pos rfl)).trans ?_
    refine (sx_iinc dc_423_106 (by rw [ml_423]; exact Nat.le_of_ble_eq_true rfl) rfl).trans ?_
    refine (sx_go dc_423_109 rfl).trans ?_
    have h := ih (k + 1) (by omega)
    rw [nI_succ] at h
    exact h
theorem cq_lowi {v w : Int32} (h : v.toInt64 < w.toInt64) : v < w := Int32.lt_iff_toInt_lt.mpr (by
  have h1 := Int64.lt_iff_toInt_lt.mp h
  rw [Int32.toInt_toInt64, Int32.toInt_toInt64] at h1
  exact h1)
theorem co_ev {X : Option (Nat × (Nat → Int32))} {σ : sm_H} {u : Nat} {d n m e q : Nat} {fs : List Value} {g : Nat → Int32} {v : Int32} (hZ : sz_Z σ m e q fs g) (hn : 20000 ≤ n) (h0 : ¬ v < 0) (h9 : ¬ 9 < v) : sm_ev X (d + 4) n 423 [.ref m, .int v] σ u = some (some (.int 0), σ.set q (.inl (0, 1500, .inl (fl_f g 0 1500))), u) := by
  rw [sx_ev (by rw [ml_423]; exact Nat.le_of_ble_eq_true rfl)]
  have hZ1 := sz_set (h := fl_f g 0 1500) hZ
  have hl := fun cal n => co_loop (X := X) (u := u) (cal := cal) (n := n) (v := v) hZ1 1500 0 (by omega)
  have h1 := hZ.1
  obtain ⟨i1, i2, i3, i4, i5, i6, i7, -⟩ := hZ1
  obtain ⟨k, rfl⟩ : ∃ k, n = k + 20000 := ⟨n - 20000, by omega⟩
  refine (sx_go dc_423_0 rfl).trans ?_
  refine (sx_go dc_423_1 rfl).trans ?_
  refine (sx_go dc_423_2 rfl).trans ?_
  refine (sx_ldc2 dc_423_3 cj_423_869).trans ?_
  refine (sx_stat (st := [.long 9, .long 0, .long v.toInt64]) (v := some (.int 1)) dc_423_6 kr_423_680 (Or.inl rfl) (by rw [np_284]; exact Nat.le_of_ble_eq_true rfl) (by rw [np_284]; exact Nat.le_of_ble_eq_true rfl) (by rw [np_284]; exact in_yes (n := k + 19988) (fun h => h0 (cq_lowi h)) (fun h => h9 (cq_lowi h)))).trans ?_
  rw [np_284]
  show sm_run _ _ _ _ (_, _, [Value.int 1], _, _) = _
  refine (sx_if_t dc_423_9 rfl (by decide)).trans ?_
  refine (sx_go dc_423_14 rfl).trans ?_
  refine (sx_virt (r := []) (v := none) dc_423_15 kr_423_527 ⟨Or.inl rfl, ow_366, cl_14⟩ (by rw [np_366]; rfl) (sz_ob h1) (Nat.le_of_ble_eq_true rfl) (by rw [np_366]; exact se_ev hZ hn)).trans ?_
  show sm_run _ _ _ _ (_, _, [], _, _) = _
  refine (sx_go dc_423_18 rfl).trans ?_
  refine (sx_istore_n dc_423_19 (by rw [ml_423]; exact Nat.le_of_ble_eq_true rfl)).trans ?_
  refine (sx_go dc_423_20 rfl).trans ?_
  refine (sx_go dc_423_21 rfl).trans ?_
  by_cases e9 : v = 9
  ·
    refine (sx_ic_f dc_423_23 rfl (if_pos e9)).trans ?_
    refine (sx_go dc_423_26 rfl).trans ?_
    refine (sx_getfield dc_423_27 fr_423_561 (sz_fd i1 i7)).trans ?_
    exact sx_ret_int dc_423_30 rt_423
  by_cases e8 : v = 8
  ·
    refine (sx_ic_t dc_423_23 rfl (if_neg e9)).trans ?_
    refine (sx_go dc_423_31 rfl).trans ?_
    refine (sx_go dc_423_32 rfl).trans ?_
    refine (sx_ic_f dc_423_34 rfl (if_pos e8)).trans ?_
    refine (sx_go dc_423_37 rfl).trans ?_
    refine (sx_istore_n dc_423_38 (by rw [ml_423]; exact Nat.le_of_ble_eq_true rfl)).trans ?_
    refine (sx_go dc_423_39 rfl).trans ?_
    refine (sx_go dc_423_40 rfl).trans ?_
    refine (sx_getfield dc_423_41 fr_423_1 (sz_fd i1 i2)).trans ?_
    refine (sx_ic_t dc_423_44 rfl (by decide)).trans ?_
    refine (sx_go dc_423_66 rfl).trans ?_
    exact sx_ret_int dc_423_67 rt_423
  refine (sx_ic_t dc_423_23 rfl (if_neg e9)).trans ?_
  refine (sx_go dc_423_31 rfl).trans ?_
  refine (sx_go dc_423_32 rfl).trans ?_
  refine (sx_ic_t dc_423_34 rfl (if_neg e8)).trans ?_
  refine (sx_go dc_423_68 rfl).trans ?_
  refine (sx_istore_n dc_423_69 (by rw [ml_423]; exact Nat.le_of_ble_eq_true rfl)).trans ?_
  rw [show k + 19982 = k + 4977 + (10 * 1500 + 5) by omega]
  exact hl _ _
