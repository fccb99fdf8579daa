/-! VISIT: what one holds, touched one by one -/
theorem dc_143_72 : decode (sm_cc 143) 72 = .ok (.iload 6, 2) := by decide +kernel
theorem dc_143_74 : decode (sm_cc 143) 74 = .ok (.iload 5, 2) := by decide +kernel
theorem dc_143_76 : decode (sm_cc 143) 76 = .ok (.if_icmp .gt (45), 3) := by decide +kernel
theorem dc_143_79 : decode (sm_cc 143) 79 = .ok (.iload 6, 2) := by decide +kernel
theorem dc_143_81 : decode (sm_cc 143) 81 = .ok (.iload_n 3, 1) := by decide +kernel
theorem dc_143_82 : decode (sm_cc 143) 82 = .ok (.imul, 1) := by decide +kernel
theorem dc_143_83 : decode (sm_cc 143) 83 = .ok (.aload 4, 2) := by decide +kernel
theorem dc_143_85 : decode (sm_cc 143) 85 = .ok (.arraylength, 1) := by decide +kernel
theorem dc_143_86 : decode (sm_cc 143) 86 = .ok (.if_icmp .gt (35), 3) := by decide +kernel
theorem dc_143_89 : decode (sm_cc 143) 89 = .ok (.aload_n 0, 1) := by decide +kernel
theorem dc_143_90 : decode (sm_cc 143) 90 = .ok (.aload 4, 2) := by decide +kernel
theorem dc_143_92 : decode (sm_cc 143) 92 = .ok (.iload 6, 2) := by decide +kernel
theorem dc_143_94 : decode (sm_cc 143) 94 = .ok (.iload_n 3, 1) := by decide +kernel
theorem dc_143_95 : decode (sm_cc 143) 95 = .ok (.imul, 1) := by decide +kernel
theorem dc_143_96 : decode (sm_cc 143) 96 = .ok (.iconst 2, 1) := by decide +kernel
theorem dc_143_97 : decode (sm_cc 143) 97 = .ok (.isub, 1) := by decide +kernel
theorem dc_143_98 : decode (sm_cc 143) 98 = .ok (.laload, 1) := by decide +kernel
theorem dc_143_99 : decode (sm_cc 143) 99 = .ok (.aload 4, 2) := by decide +kernel
theorem dc_143_101 : decode (sm_cc 143) 101 = .ok (.iload 6, 2) := by decide +kernel
theorem dc_143_103 : decode (sm_cc 143) 103 = .ok (.iload_n 3, 1) := by decide +kernel
theorem dc_143_104 : decode (sm_cc 143) 104 = .ok (.imul, 1) := by decide +kernel
theorem dc_143_105 : decode (sm_cc 143) 105 = .ok (.iconst 1, 1) := by decide +kernel
theorem dc_143_106 : decode (sm_cc 143) 106 = .ok (.isub, 1) := by decide +kernel
theorem dc_143_107 : decode (sm_cc 143) 107 = .ok (.laload, 1) := by decide +kernel
theorem dc_143_108 : decode (sm_cc 143) 108 = .ok (.invokestatic 91, 3) := by decide +kernel
theorem kr_143_91 : sm_at mt_k (sm_ow 143) 91 = some (91, 3, 137, 1, 1418) := by decide +kernel
theorem dc_143_111 : decode (sm_cc 143) 111 = .ok (.iload_n 2, 1) := by decide +kernel
theorem dc_143_112 : decode (sm_cc 143) 112 = .ok (.invokevirtual 84, 3) := by decide +kernel
theorem ow_144 : 2 = sm_ow 144 := by decide +kernel
theorem kr_143_84 : sm_at mt_k (sm_ow 143) 84 = some (84, 0, 144, 0, 1411) := by decide +kernel
theorem np_144 : sm_np 144 = 2 := by decide +kernel
theorem dc_143_115 : decode (sm_cc 143) 115 = .ok (.iinc 6 (1), 3) := by decide +kernel
theorem ml_143 : sm_ml 143 = 7 := by decide +kernel
theorem dc_143_118 : decode (sm_cc 143) 118 = .ok (.goto (-46), 3) := by decide +kernel
theorem dc_143_121 : decode (sm_cc 143) 121 = .ok (.return_, 1) := by decide +kernel
theorem rt_143 : sm_rt 143 = none := by decide +kernel
theorem dc_143_0 : decode (sm_cc 143) 0 = .ok (.iload_n 1, 1) := by decide +kernel
theorem dc_143_1 : decode (sm_cc 143) 1 = .ok (.invokestatic 65, 3) := by decide +kernel
theorem kr_143_65 : sm_at mt_k (sm_ow 143) 65 = some (65, 2, 139, 0, 1392) := by decide +kernel
theorem dc_143_4 : decode (sm_cc 143) 4 = .ok (.ifCond .ne (4), 3) := by decide +kernel
theorem dc_143_8 : decode (sm_cc 143) 8 = .ok (.aload_n 0, 1) := by decide +kernel
theorem dc_143_9 : decode (sm_cc 143) 9 = .ok (.aload_n 0, 1) := by decide +kernel
theorem dc_143_10 : decode (sm_cc 143) 10 = .ok (.getfield 24, 3) := by decide +kernel
theorem fr_143_24 : sm_at mt_f (sm_ow 143) 24 = some (24, 2, 4, 0, 380) := by decide +kernel
theorem dc_143_13 : decode (sm_cc 143) 13 = .ok (.iload_n 1, 1) := by decide +kernel
theorem dc_143_14 : decode (sm_cc 143) 14 = .ok (.iaload, 1) := by decide +kernel
theorem dc_143_15 : decode (sm_cc 143) 15 = .ok (.iload_n 2, 1) := by decide +kernel
theorem dc_143_16 : decode (sm_cc 143) 16 = .ok (.invokevirtual 84, 3) := by decide +kernel
theorem dc_143_19 : decode (sm_cc 143) 19 = .ok (.aload_n 0, 1) := by decide +kernel
theorem dc_143_20 : decode (sm_cc 143) 20 = .ok (.aload_n 0, 1) := by decide +kernel
theorem dc_143_21 : decode (sm_cc 143) 21 = .ok (.getfield 27, 3) := by decide +kernel
theorem fr_143_27 : sm_at mt_f (sm_ow 143) 27 = some (27, 2, 5, 0, 381) := by decide +kernel
theorem dc_143_24 : decode (sm_cc 143) 24 = .ok (.iload_n 1, 1) := by decide +kernel
theorem dc_143_25 : decode (sm_cc 143) 25 = .ok (.iaload, 1) := by decide +kernel
theorem dc_143_26 : decode (sm_cc 143) 26 = .ok (.iload_n 2, 1) := by decide +kernel
theorem dc_143_27 : decode (sm_cc 143) 27 = .ok (.invokevirtual 84, 3) := by decide +kernel
theorem dc_143_30 : decode (sm_cc 143) 30 = .ok (.aload_n 0, 1) := by decide +kernel
theorem dc_143_31 : decode (sm_cc 143) 31 = .ok (.getfield 11, 3) := by decide +kernel
theorem fr_143_11 : sm_at mt_f (sm_ow 143) 11 = some (11, 2, 0, 0, 373) := by decide +kernel
theorem dc_143_34 : decode (sm_cc 143) 34 = .ok (.iload_n 1, 1) := by decide +kernel
theorem dc_143_35 : decode (sm_cc 143) 35 = .ok (.iaload, 1) := by decide +kernel
theorem dc_143_36 : decode (sm_cc 143) 36 = .ok (.invokestatic 87, 3) := by decide +kernel
theorem kr_143_87 : sm_at mt_k (sm_ow 143) 87 = some (87, 2, 145, 0, 1415) := by decide +kernel
theorem dc_143_39 : decode (sm_cc 143) 39 = .ok (.istore_n 3, 1) := by decide +kernel
theorem dc_143_40 : decode (sm_cc 143) 40 = .ok (.aload_n 0, 1) := by decide +kernel
theorem dc_143_41 : decode (sm_cc 143) 41 = .ok (.getfield 38, 3) := by decide +kernel
theorem fr_143_38 : sm_at mt_f (sm_ow 143) 38 = some (38, 2, 8, 0, 384) := by decide +kernel
theorem dc_143_44 : decode (sm_cc 143) 44 = .ok (.iload_n 1, 1) := by decide +kernel
theorem dc_143_45 : decode (sm_cc 143) 45 = .ok (.aaload, 1) := by decide +kernel
theorem dc_143_46 : decode (sm_cc 143) 46 = .ok (.astore 4, 2) := by decide +kernel
theorem dc_143_48 : decode (sm_cc 143) 48 = .ok (.aload 4, 2) := by decide +kernel
theorem dc_143_50 : decode (sm_cc 143) 50 = .ok (.ifnull (7), 3) := by decide +kernel
theorem dc_143_53 : decode (sm_cc 143) 53 = .ok (.iload_n 3, 1) := by decide +kernel
theorem dc_143_54 : decode (sm_cc 143) 54 = .ok (.ifCond .ne (7), 3) := by decide +kernel
theorem dc_143_61 : decode (sm_cc 143) 61 = .ok (.aload_n 0, 1) := by decide +kernel
theorem dc_143_62 : decode (sm_cc 143) 62 = .ok (.getfield 33, 3) := by decide +kernel
theorem fr_143_33 : sm_at mt_f (sm_ow 143) 33 = some (33, 2, 7, 0, 383) := by decide +kernel
theorem dc_143_65 : decode (sm_cc 143) 65 = .ok (.iload_n 1, 1) := by decide +kernel
theorem dc_143_66 : decode (sm_cc 143) 66 = .ok (.iaload, 1) := by decide +kernel
theorem dc_143_67 : decode (sm_cc 143) 67 = .ok (.istore 5, 2) := by decide +kernel
theorem dc_143_69 : decode (sm_cc 143) 69 = .ok (.iconst 1, 1) := by decide +kernel
theorem dc_143_70 : decode (sm_cc 143) 70 = .ok (.istore 6, 2) := by decide +kernel
theorem dc_143_57 : decode (sm_cc 143) 57 = .ok (.iconst 0, 1) := by decide +kernel
theorem dc_143_58 : decode (sm_cc 143) 58 = .ok (.goto (9), 3) := by decide +kernel
theorem Bod.ast0 {d j pc : Nat} {lv : sm_L} {st : List Value} {S Sf : cS} {v : Option Value} {q : Nat} (hd : decode (sm_cc j) pc = .ok (.astore q, 2)) (hl : q < sm_ml j) (h : Bod d j (pc + 2) (sm_p1 lv q .null) st S v Sf) : Bod d j pc lv (.null :: st) S v Sf := Bod.of (fun _ _ => sx_go hd (sd_loc rfl (if_pos hl))) h
theorem Bod.astn0 {d j pc : Nat} {lv : sm_L} {st : List Value} {S Sf : cS} {v : Option Value} {q : Fin 4} (hd : decode (sm_cc j) pc = .ok (.astore_n q, 1)) (hl : (q : Nat) < sm_ml j) (h : Bod d j (pc + 1) (sm_p1 lv q .null) st S v Sf) : Bod d j pc lv (.null :: st) S v Sf := Bod.of (fun _ _ => sx_go hd (sd_loc rfl (if_pos hl))) h
theorem visit_loop2 {d k z a N : Nat} {dd : Int32} {f : Nat → Nat} {T : cS → Nat → cS} {P : List Nat → cS → Prop} (hT : ∀ {t : Nat} {l : List Nat} {S : cS}, P (t :: l) S → Ans (d + 1) 144 [.ref 2, .int (nI t), .int dd] S none (T S t)) (hP : ∀ {t : Nat} {l : List Nat} {S : cS}, P (t :: l) S → P l (T S t)) (hL : ∀ (S : cS) (t : Nat), sL (T S t) = sL S) (hS : ∀ (S : cS) (t : Nat), sS (T S t) = sS S) (ha : 108 ≤ a) (hN : N < 2 ^ 31) (hz : z ≤ 300) (hzN : 2 * z ≤ N) : ∀ (r i : Nat) (S : cS), i + r = z → (sS S)[a - 108]? = some (1, N) → (∀ e, e < z → c_obj (sL S a (2 * e)) (sL S a (2 * e + 1)) = nI (f e)) → P (seqN f i r) S → Bod (d + 1) 143 72 (sm_p1 (sm_p1 (sm_p1 (sm_p1 (lv_args 0 [.ref 2, .int (nI k), .int dd]) 3 (.int (nI 2))) 4 (.ref a)) 5 (.int (nI z))) 6 (.int (nI (i + 1)))) [] S none ((seqN f i r).foldl T S) := by
  intro r
  induction r with
  | zero =>
    intro i S hi hs hf hp
    refine Bod.go dc_143_72 rfl ?_
    refine Bod.go dc_143_74 rfl ?_
    refine Bod.icT dc_143_76 rfl (k2_gt_T (i + 1) z rfl rfl (by omega) (by omega)) ?_
    exact Bod.retV dc_143_121 rt_143
  | succ r ih =>
    intro i S hi hs hf hp
    have hnext := ih (i + 1) (T S (f i)) (by omega) (by rw [hS]; exact hs) (by rw [hL]; exact hf) (hP hp)
    refine Bod.go dc_143_72 rfl ?_
    refine Bod.go dc_143_74 rfl ?_
    refine Bod.icF dc_143_76 rfl (k2_gt_F (i + 1) z rfl rfl (by omega) (by omega)) ?_
    refine Bod.go dc_143_79 rfl ?_
    refine Bod.go dc_143_81 rfl ?_
    refine Bod.mulN (2 * i + 2) (by omega) dc_143_82 ?_
    refine Bod.go dc_143_83 rfl ?_
    refine Bod.alenN (N := N) dc_143_85 (mk_row ha hs) el_1 ?_
    refine Bod.icF dc_143_86 rfl (k2_gt_F (2 * i + 2) N rfl rfl (by omega) (by omega)) ?_
    refine Bod.go dc_143_89 rfl ?_
    refine Bod.go dc_143_90 rfl ?_
    refine Bod.go dc_143_92 rfl ?_
    refine Bod.go dc_143_94 rfl ?_
    refine Bod.mulN (2 * i + 2) (by omega) dc_143_95 ?_
    refine Bod.ic 2 (by decide) dc_143_96 ?_
    refine Bod.subN (2 * i) (by omega) (by omega) dc_143_97 ?_
    refine Bod.laldN (N := N) (2 * i) rfl (by omega) (by omega) dc_143_98 (mk_row ha hs) ?_
    refine Bod.go dc_143_99 rfl ?_
    refine Bod.go dc_143_101 rfl ?_
    refine Bod.go dc_143_103 rfl ?_
    refine Bod.mulN (2 * i + 2) (by omega) dc_143_104 ?_
    refine Bod.ic 1 (by decide) dc_143_105 ?_
    refine Bod.subN (2 * i + 1) (by omega) (by omega) dc_143_106 ?_
    refine Bod.laldN (N := N) (2 * i + 1) rfl (by omega) (by omega) dc_143_107 (mk_row ha hs) ?_
    refine Bod.stat (r := [_]) dc_143_108 kr_143_91 (Or.inr rfl) (by rw [np_137]; rfl) (by rw [np_137]; rfl) (by rw [np_137]; exact Nat.le_of_ble_eq_true rfl) (Nat.le_of_ble_eq_true rfl) (objectOf_n (o := f i) (hf i (by omega))) ?_
    show Bod _ _ _ _ [_, _] _ _ _
    refine Bod.go dc_143_111 rfl ?_
    refine Bod.virt (r := []) dc_143_112 kr_143_84 ⟨Or.inl rfl, ow_144, cl_2⟩ (by rw [np_144]; rfl) (by rw [np_144]; rfl) (ob_of (mk_2 _)) (Nat.le_of_ble_eq_true rfl) (hT (t := f i) hp) ?_
    show Bod _ _ _ _ [] _ _ _
    refine Bod.incN (i + 2) (by rw [kc_1, nI_add]) dc_143_115 (by rw [ml_143]; exact Nat.le_of_ble_eq_true rfl) rfl ?_
    refine Bod.go dc_143_118 rfl ?_
    rw [sm_p1_p1]
    exact hnext
theorem visit_2 {d k kd z x y a N : Nat} {dd : Int32} {S : cS} {f : Nat → Nat} {T : cS → Nat → cS} {P : List Nat → cS → Prop} (hT : ∀ {t : Nat} {l : List Nat} {S : cS}, P (t :: l) S → Ans (d + 1) 144 [.ref 2, .int (nI t), .int dd] S none (T S t)) (hP : ∀ {t : Nat} {l : List Nat} {S : cS}, P (t :: l) S → P l (T S t)) (hL : ∀ (S : cS) (t : Nat), sL (T S t) = sL S) (hS : ∀ (S : cS) (t : Nat), sS (T S t) = sS S) (h3 : ∀ (S : cS) (t : Nat), sA (T S t) 3 = sA S 3) (h8 : ∀ (S : cS) (t : Nat), sA (T S t) 8 = sA S 8) (h10 : ∀ (S : cS) (t : Nat), sA (T S t) 10 = sA S 10) (hQ : ∀ (S : cS) (t : Nat), sQ (T S t) = sQ S) (h0 : 1 ≤ k) (hk : k ≤ 1500) (hkd : sA S 3 k = nI kd) (h7 : kd ≤ 7) (hw : c_width kd = 2) (hsz : sA S 10 k = nI z) (hx : sA S 7 k = nI x) (hy : sA S 8 k = nI y) (hr : sQ S 11 k = some a) (ha : 108 ≤ a) (hs : (sS S)[a - 108]? = some (1, N)) (hN : N < 2 ^ 31) (hz : z ≤ 300) (hzN : 2 * z ≤ N) (hf : ∀ e, e < z → c_obj (sL S a (2 * e)) (sL S a (2 * e + 1)) = nI (f e)) (hp : P (x :: y :: seqN f 0 z) S) : Ans (d + 2) 143 [.ref 2, .int (nI k), .int dd] S none ((x :: y :: seqN f 0 z).foldl T S) := by
  refine Ans.of (by rw [ml_143]; exact Nat.le_of_ble_eq_true rfl) ?_
  refine Bod.go dc_143_0 rfl ?_
  refine Bod.stat (r := []) dc_143_1 kr_143_65 (Or.inl rfl) (by rw [np_139]; rfl) (by rw [np_139]; rfl) (by rw [np_139]; exact Nat.le_of_ble_eq_true rfl) (Nat.le_of_ble_eq_true rfl) (isId_T (k := k) (by omega) (by omega)) ?_
  show Bod _ _ _ _ [_] _ _ _
  refine Bod.ifT dc_143_4 rfl (k1_ne_T (k_ne 1 0 rfl rfl (by omega) (by omega) (by omega))) ?_
  refine Bod.go dc_143_8 rfl ?_
  refine Bod.go dc_143_9 rfl ?_
  refine Bod.get dc_143_10 fr_143_24 (mk_2 _) rfl ?_
  refine Bod.go dc_143_13 rfl ?_
  refine Bod.ialdN k rfl (by omega) (by omega) dc_143_14 (mk_7 _) ?_
  refine Bod.eqI (nI x) (by first | assumption | rfl | exact congrArg nI (by omega) | (simp (disch := omega) only [rI, rIe, rA, rIA, rLA, rJA, rVI, rQI, rVA, rQA, upd_at,  rAI, rLI, rJI, nI_add, pk_sub, kc_0, kc_1, kc_2, kc_3, kc_4, kc_5, reduceIte, Nat.reduceEqDiff, Nat.add_zero, rI_hold, rI_hold, rL_hold, hkd, hsz, hx, hy, hL, hS, h3, h8, h10, hQ]; done)) ?_
  refine Bod.go dc_143_15 rfl ?_
  refine Bod.virt (r := []) dc_143_16 kr_143_84 ⟨Or.inl rfl, ow_144, cl_2⟩ (by rw [np_144]; rfl) (by rw [np_144]; rfl) (ob_of (mk_2 _)) (Nat.le_of_ble_eq_true rfl) (hT (t := x) hp) ?_
  show Bod _ _ _ _ [] _ _ _
  refine Bod.go dc_143_19 rfl ?_
  refine Bod.go dc_143_20 rfl ?_
  refine Bod.get dc_143_21 fr_143_27 (mk_2 _) rfl ?_
  refine Bod.go dc_143_24 rfl ?_
  refine Bod.ialdN k rfl (by omega) (by omega) dc_143_25 (mk_8 _) ?_
  refine Bod.eqI (nI y) (by first | (simp (disch := omega) only [rI, rIe, rA, rIA, rLA, rJA, rVI, rQI, rVA, rQA, upd_at,  rAI, rLI, rJI, nI_add, pk_sub, kc_0, kc_1, kc_2, kc_3, kc_4, kc_5, reduceIte, Nat.reduceEqDiff, Nat.add_zero, rI_hold, rI_hold, rL_hold, hkd, hsz, hx, hy, hL, hS, h3, h8, h10, hQ]; done) | (simp (disch := omega) only [rI, rIe, rA, rIA, rLA, rJA, rVI, rQI, rVA, rQA, upd_at,  rAI, rLI, rJI, nI_add, pk_sub, kc_0, kc_1, kc_2, kc_3, kc_4, kc_5, reduceIte, Nat.reduceEqDiff, Nat.add_zero, rI_hold, rI_hold, rL_hold, hkd, hsz, hx, hy, hL, hS, h3, h8, h10, hQ]; exact congrArg nI (by omega))) ?_
  refine Bod.go dc_143_26 rfl ?_
  refine Bod.virt (r := []) dc_143_27 kr_143_84 ⟨Or.inl rfl, ow_144, cl_2⟩ (by rw [np_144]; rfl) (by rw [np_144]; rfl) (ob_of (mk_2 _)) (Nat.le_of_ble_eq_true rfl) (hT (t := y) (hP hp)) ?_
  show Bod _ _ _ _ [] _ _ _
  refine Bod.go dc_143_30 rfl ?_
  refine Bod.get dc_143_31 fr_143_11 (mk_2 _) rfl ?_
  refine Bod.go dc_143_34 rfl ?_
  refine Bod.ialdN k rfl (by omega) (by omega) dc_143_35 (mk_3 _) ?_
  refine Bod.eqI (nI kd) (by first | (simp (disch := omega) only [rI, rIe, rA, rIA, rLA, rJA, rVI, rQI, rVA, rQA, upd_at,  rAI, rLI, rJI, nI_add, pk_sub, kc_0, kc_1, kc_2, kc_3, kc_4, kc_5, reduceIte, Nat.reduceEqDiff, Nat.add_zero, rI_hold, rI_hold, rL_hold, hkd, hsz, hx, hy, hL, hS, h3, h8, h10, hQ]; done) | (simp (disch := omega) only [rI, rIe, rA, rIA, rLA, rJA, rVI, rQI, rVA, rQA, upd_at,  rAI, rLI, rJI, nI_add, pk_sub, kc_0, kc_1, kc_2, kc_3, kc_4, kc_5, reduceIte, Nat.reduceEqDiff, Nat.add_zero, rI_hold, rI_hold, rL_hold, hkd, hsz, hx, hy, hL, hS, h3, h8, h10, hQ]; exact congrArg nI (by omega))) ?_
  refine Bod.stat (r := []) dc_143_36 kr_143_87 (Or.inl rfl) (by rw [np_145]; rfl) (by rw [np_145]; rfl) (by rw [np_145]; exact Nat.le_of_ble_eq_true rfl) (Nat.le_of_ble_eq_true rfl) (widthOf_ev (kd := kd) (w := 2) (by omega) hw) ?_
  show Bod _ _ _ _ [_] _ _ _
  refine Bod.istn dc_143_39 (by rw [ml_143]; exact Nat.le_of_ble_eq_true rfl) ?_
  refine Bod.go dc_143_40 rfl ?_
  refine Bod.get dc_143_41 fr_143_38 (mk_2 _) rfl ?_
  refine Bod.go dc_143_44 rfl ?_
  refine Bod.aaldR (N := 1501) (b := a) k rfl (by omega) (by omega) (by simp only [rIQ, rJQ, rAQ, rLQ, rVQ, rQ_holdE, hQ]; exact hr) dc_143_45 (mk_11 _) ht_4 ?_
  refine Bod.ast dc_143_46 (by rw [ml_143]; exact Nat.le_of_ble_eq_true rfl) ?_
  refine Bod.go dc_143_48 rfl ?_
  refine Bod.go dc_143_50 rfl ?_
  refine Bod.go dc_143_53 rfl ?_
  refine Bod.ifT dc_143_54 rfl (k1_ne_T (k_ne 2 0 rfl rfl (by omega) (by omega) (by omega))) ?_
  refine Bod.go dc_143_61 rfl ?_
  refine Bod.get dc_143_62 fr_143_33 (mk_2 _) rfl ?_
  refine Bod.go dc_143_65 rfl ?_
  refine Bod.ialdN k rfl (by omega) (by omega) dc_143_66 (mk_10 _) ?_
  refine Bod.eqI (nI z) (by first | (simp (disch := omega) only [rI, rIe, rA, rIA, rLA, rJA, rVI, rQI, rVA, rQA, upd_at,  rAI, rLI, rJI, nI_add, pk_sub, kc_0, kc_1, kc_2, kc_3, kc_4, kc_5, reduceIte, Nat.reduceEqDiff, Nat.add_zero, rI_hold, rI_hold, rL_hold, hkd, hsz, hx, hy, hL, hS, h3, h8, h10, hQ]; done) | (simp (disch := omega) only [rI, rIe, rA, rIA, rLA, rJA, rVI, rQI, rVA, rQA, upd_at,  rAI, rLI, rJI, nI_add, pk_sub, kc_0, kc_1, kc_2, kc_3, kc_4, kc_5, reduceIte, Nat.reduceEqDiff, Nat.add_zero, rI_hold, rI_hold, rL_hold, hkd, hsz, hx, hy, hL, hS, h3, h8, h10, hQ]; exact congrArg nI (by omega))) ?_
  refine Bod.ist dc_143_67 (by rw [ml_143]; exact Nat.le_of_ble_eq_true rfl) ?_
  refine Bod.ic 1 (by decide) dc_143_69 ?_
  refine Bod.ist dc_143_70 (by rw [ml_143]; exact Nat.le_of_ble_eq_true rfl) ?_
  exact visit_loop2 hT hP hL hS ha hN hz hzN z 0 (T (T S x) y) (by omega) (by rw [hS, hS]; exact hs) (by rw [hL, hL]; exact hf) (hP (hP hp))
theorem visit_loop4 {d k z a N : Nat} {dd : Int32} {f : Nat → Nat} {T : cS → Nat → cS} {P : List Nat → cS → Prop} (hT : ∀ {t : Nat} {l : List Nat} {S : cS}, P (t :: l) S → Ans (d + 1) 144 [.ref 2, .int (nI t), .int dd] S none (T S t)) (hP : ∀ {t : Nat} {l : List Nat} {S : cS}, P (t :: l) S → P l (T S t)) (hL : ∀ (S : cS) (t : Nat), sL (T S t) = sL S) (hS : ∀ (S : cS) (t : Nat), sS (T S t) = sS S) (ha : 108 ≤ a) (hN : N < 2 ^ 31) (hz : z ≤ 300) (hzN : 4 * z ≤ N) : ∀ (r i : Nat) (S : cS), i + r = z → (sS S)[a - 108]? = some (1, N) → (∀ e, e < z → c_obj (sL S a (4 * e + 2)) (sL S a (4 * e + 3)) = nI (f e)) → P (seqN f i r) S → Bod (d + 1) 143 72 (sm_p1 (sm_p1 (sm_p1 (sm_p1 (lv_args 0 [.ref 2, .int (nI k), .int dd]) 3 (.int (nI 4))) 4 (.ref a)) 5 (.int (nI z))) 6 (.int (nI (i + 1)))) [] S none ((seqN f i r).foldl T S) := by
  intro r
  induction r with
  | zero =>
    intro i S hi hs hf hp
    refine Bod.go dc_143_72 rfl ?_
    refine Bod.go dc_143_74 rfl ?_
    refine Bod.icT dc_143_76 rfl (k2_gt_T (i + 1) z rfl rfl (by omega) (by omega)) ?_
    exact Bod.retV dc_143_121 rt_143
  | succ r ih =>
    intro i S hi hs hf hp
    have hnext := ih (i + 1) (T S (f i)) (by omega) (by rw [hS]; exact hs) (by rw [hL]; exact hf) (hP hp)
    refine Bod.go dc_143_72 rfl ?_
    refine Bod.go dc_143_74 rfl ?_
    refine Bod.icF dc_143_76 rfl (k2_gt_F (i + 1) z rfl rfl (by omega) (by omega)) ?_
    refine Bod.go dc_143_79 rfl ?_
    refine Bod.go dc_143_81 rfl ?_
    refine Bod.mulN (4 * i + 4) (by omega) dc_143_82 ?_
    refine Bod.go dc_143_83 rfl ?_
    refine Bod.alenN (N := N) dc_143_85 (mk_row ha hs) el_1 ?_
    refine Bod.icF dc_143_86 rfl (k2_gt_F (4 * i + 4) N rfl rfl (by omega) (by omega)) ?_
    refine Bod.go dc_143_89 rfl ?_
    refine Bod.go dc_143_90 rfl ?_
    refine Bod.go dc_143_92 rfl ?_
    refine Bod.go dc_143_94 rfl ?_
    refine Bod.mulN (4 * i + 4) (by omega) dc_143_95 ?_
    refine Bod.ic 2 (by decide) dc_143_96 ?_
    refine Bod.subN (4 * i + 2) (by omega) (by omega) dc_143_97 ?_
    refine Bod.laldN (N := N) (4 * i + 2) rfl (by omega) (by omega) dc_143_98 (mk_row ha hs) ?_
    refine Bod.go dc_143_99 rfl ?_
    refine Bod.go dc_143_101 rfl ?_
    refine Bod.go dc_143_103 rfl ?_
    refine Bod.mulN (4 * i + 4) (by omega) dc_143_104 ?_
    refine Bod.ic 1 (by decide) dc_143_105 ?_
    refine Bod.subN (4 * i + 3) (by omega) (by omega) dc_143_106 ?_
    refine Bod.laldN (N := N) (4 * i + 3) rfl (by omega) (by omega) dc_143_107 (mk_row ha hs) ?_
    refine Bod.stat (r := [_]) dc_143_108 kr_143_91 (Or.inr rfl) (by rw [np_137]; rfl) (by rw [np_137]; rfl) (by rw [np_137]; exact Nat.le_of_ble_eq_true rfl) (Nat.le_of_ble_eq_true rfl) (objectOf_n (o := f i) (hf i (by omega))) ?_
    show Bod _ _ _ _ [_, _] _ _ _
    refine Bod.go dc_143_111 rfl ?_
    refine Bod.virt (r := []) dc_143_112 kr_143_84 ⟨Or.inl rfl, ow_144, cl_2⟩ (by rw [np_144]; rfl) (by rw [np_144]; rfl) (ob_of (mk_2 _)) (Nat.le_of_ble_eq_true rfl) (hT (t := f i) hp) ?_
    show Bod _ _ _ _ [] _ _ _
    refine Bod.incN (i + 2) (by rw [kc_1, nI_add]) dc_143_115 (by rw [ml_143]; exact Nat.le_of_ble_eq_true rfl) rfl ?_
    refine Bod.go dc_143_118 rfl ?_
    rw [sm_p1_p1]
    exact hnext
theorem visit_4 {d k kd z x y a N : Nat} {dd : Int32} {S : cS} {f : Nat → Nat} {T : cS → Nat → cS} {P : List Nat → cS → Prop} (hT : ∀ {t : Nat} {l : List Nat} {S : cS}, P (t :: l) S → Ans (d + 1) 144 [.ref 2, .int (nI t), .int dd] S none (T S t)) (hP : ∀ {t : Nat} {l : List Nat} {S : cS}, P (t :: l) S → P l (T S t)) (hL : ∀ (S : cS) (t : Nat), sL (T S t) = sL S) (hS : ∀ (S : cS) (t : Nat), sS (T S t) = sS S) (h3 : ∀ (S : cS) (t : Nat), sA (T S t) 3 = sA S 3) (h8 : ∀ (S : cS) (t : Nat), sA (T S t) 8 = sA S 8) (h10 : ∀ (S : cS) (t : Nat), sA (T S t) 10 = sA S 10) (hQ : ∀ (S : cS) (t : Nat), sQ (T S t) = sQ S) (h0 : 1 ≤ k) (hk : k ≤ 1500) (hkd : sA S 3 k = nI kd) (h7 : kd ≤ 7) (hw : c_width kd = 4) (hsz : sA S 10 k = nI z) (hx : sA S 7 k = nI x) (hy : sA S 8 k = nI y) (hr : sQ S 11 k = some a) (ha : 108 ≤ a) (hs : (sS S)[a - 108]? = some (1, N)) (hN : N < 2 ^ 31) (hz : z ≤ 300) (hzN : 4 * z ≤ N) (hf : ∀ e, e < z → c_obj (sL S a (4 * e + 2)) (sL S a (4 * e + 3)) = nI (f e)) (hp : P (x :: y :: seqN f 0 z) S) : Ans (d + 2) 143 [.ref 2, .int (nI k), .int dd] S none ((x :: y :: seqN f 0 z).foldl T S) := by
  refine Ans.of (by rw [ml_143]; exact Nat.le_of_ble_eq_true rfl) ?_
  refine Bod.go dc_143_0 rfl ?_
  refine Bod.stat (r := []) dc_143_1 kr_143_65 (Or.inl rfl) (by rw [np_139]; rfl) (by rw [np_139]; rfl) (by rw [np_139]; exact Nat.le_of_ble_eq_true rfl) (Nat.le_of_ble_eq_true rfl) (isId_T (k := k) (by omega) (by omega)) ?_
  show Bod _ _ _ _ [_] _ _ _
  refine Bod.ifT dc_143_4 rfl (k1_ne_T (k_ne 1 0 rfl rfl (by omega) (by omega) (by omega))) ?_
  refine Bod.go dc_143_8 rfl ?_
  refine Bod.go dc_143_9 rfl ?_
  refine Bod.get dc_143_10 fr_143_24 (mk_2 _) rfl ?_
  refine Bod.go dc_143_13 rfl ?_
  refine Bod.ialdN k rfl (by omega) (by omega) dc_143_14 (mk_7 _) ?_
  refine Bod.eqI (nI x) (by first | assumption | rfl | exact congrArg nI (by omega) | (simp (disch := omega) only [rI, rIe, rA, rIA, rLA, rJA, rVI, rQI, rVA, rQA, upd_at,  rAI, rLI, rJI, nI_add, pk_sub, kc_0, kc_1, kc_2, kc_3, kc_4, kc_5, reduceIte, Nat.reduceEqDiff, Nat.add_zero, rI_hold, rI_hold, rL_hold, hkd, hsz, hx, hy, hL, hS, h3, h8, h10, hQ]; done)) ?_
  refine Bod.go dc_143_15 rfl ?_
  refine Bod.virt (r := []) dc_143_16 kr_143_84 ⟨Or.inl rfl, ow_144, cl_2⟩ (by rw [np_144]; rfl) (by rw [np_144]; rfl) (ob_of (mk_2 _)) (Nat.le_of_ble_eq_true rfl) (hT (t := x) hp) ?_
  show Bod _ _ _ _ [] _ _ _
  refine Bod.go dc_143_19 rfl ?_
  refine Bod.go dc_143_20 rfl ?_
  refine Bod.get dc_143_21 fr_143_27 (mk_2 _) rfl ?_
  refine Bod.go dc_143_24 rfl ?_
  refine Bod.ialdN k rfl (by omega) (by omega) dc_143_25 (mk_8 _) ?_
  refine Bod.eqI (nI y) (by first | (simp (disch := omega) only [rI, rIe, rA, rIA, rLA, rJA, rVI, rQI, rVA, rQA, upd_at,  rAI, rLI, rJI, nI_add, pk_sub, kc_0, kc_1, kc_2, kc_3, kc_4, kc_5, reduceIte, Nat.reduceEqDiff, Nat.add_zero, rI_hold, rI_hold, rL_hold, hkd, hsz, hx, hy, hL, hS, h3, h8, h10, hQ]; done) | (simp (disch := omega) only [rI, rIe, rA, rIA, rLA, rJA, rVI, rQI, rVA, rQA, upd_at,  rAI, rLI, rJI, nI_add, pk_sub, kc_0, kc_1, kc_2, kc_3, kc_4, kc_5, reduceIte, Nat.reduceEqDiff, Nat.add_zero, rI_hold, rI_hold, rL_hold, hkd, hsz, hx, hy, hL, hS, h3, h8, h10, hQ]; exact congrArg nI (by omega))) ?_
  refine Bod.go dc_143_26 rfl ?_
  refine Bod.virt (r := []) dc_143_27 kr_143_84 ⟨Or.inl rfl, ow_144, cl_2⟩ (by rw [np_144]; rfl) (by rw [np_144]; rfl) (ob_of (mk_2 _)) (Nat.le_of_ble_eq_true rfl) (hT (t := y) (hP hp)) ?_
  show Bod _ _ _ _ [] _ _ _
  refine Bod.go dc_143_30 rfl ?_
  refine Bod.get dc_143_31 fr_143_11 (mk_2 _) rfl ?_
  refine Bod.go dc_143_34 rfl ?_
  refine Bod.ialdN k rfl (by omega) (by omega) dc_143_35 (mk_3 _) ?_
  refine Bod.eqI (nI kd) (by first | (simp (disch := omega) only [rI, rIe, rA, rIA, rLA, rJA, rVI, rQI, rVA, rQA, upd_at,  rAI, rLI, rJI, nI_add, pk_sub, kc_0, kc_1, kc_2, kc_3, kc_4, kc_5, reduceIte, Nat.reduceEqDiff, Nat.add_zero, rI_hold, rI_hold, rL_hold, hkd, hsz, hx, hy, hL, hS, h3, h8, h10, hQ]; done) | (simp (disch := omega) only [rI, rIe, rA, rIA, rLA, rJA, rVI, rQI, rVA, rQA, upd_at,  rAI, rLI, rJI, nI_add, pk_sub, kc_0, kc_1, kc_2, kc_3, kc_4, kc_5, reduceIte, Nat.reduceEqDiff, Nat.add_zero, rI_hold, rI_hold, rL_hold, hkd, hsz, hx, hy, hL, hS, h3, h8, h10, hQ]; exact congrArg nI (by omega))) ?_
  refine Bod.stat (r := []) dc_143_36 kr_143_87 (Or.inl rfl) (by rw [np_145]; rfl) (by rw [np_145]; rfl) (by rw [np_145]; exact Nat.le_of_ble_eq_true rfl) (Nat.le_of_ble_eq_true rfl) (widthOf_ev (kd := kd) (w := 4) (by omega) hw) ?_
  show Bod _ _ _ _ [_] _ _ _
  refine Bod.istn dc_143_39 (by rw [ml_143]; exact Nat.le_of_ble_eq_true rfl) ?_
  refine Bod.go dc_143_40 rfl ?_
  refine Bod.get dc_143_41 fr_143_38 (mk_2 _) rfl ?_
  refine Bod.go dc_143_44 rfl ?_
  refine Bod.aaldR (N := 1501) (b := a) k rfl (by omega) (by omega) (by simp only [rIQ, rJQ, rAQ, rLQ, rVQ, rQ_holdE, hQ]; exact hr) dc_143_45 (mk_11 _) ht_4 ?_
  refine Bod.ast dc_143_46 (by rw [ml_143]; exact Nat.le_of_ble_eq_true rfl) ?_
  refine Bod.go dc_143_48 rfl ?_
  refine Bod.go dc_143_50 rfl ?_
  refine Bod.go dc_143_53 rfl ?_
  refine Bod.ifT dc_143_54 rfl (k1_ne_T (k_ne 4 0 rfl rfl (by omega) (by omega) (by omega))) ?_
  refine Bod.go dc_143_61 rfl ?_
  refine Bod.get dc_143_62 fr_143_33 (mk_2 _) rfl ?_
  refine Bod.go dc_143_65 rfl ?_
  refine Bod.ialdN k rfl (by omega) (by omega) dc_143_66 (mk_10 _) ?_
  refine Bod.eqI (nI z) (by first | (simp (disch := omega) only [rI, rIe, rA, rIA, rLA, rJA, rVI, rQI, rVA, rQA, upd_at,  rAI, rLI, rJI, nI_add, pk_sub, kc_0, kc_1, kc_2, kc_3, kc_4, kc_5, reduceIte, Nat.reduceEqDiff, Nat.add_zero, rI_hold, rI_hold, rL_hold, hkd, hsz, hx, hy, hL, hS, h3, h8, h10, hQ]; done) | (simp (disch := omega) only [rI, rIe, rA, rIA, rLA, rJA, rVI, rQI, rVA, rQA, upd_at,  rAI, rLI, rJI, nI_add, pk_sub, kc_0, kc_1, kc_2, kc_3, kc_4, kc_5, reduceIte, Nat.reduceEqDiff, Nat.add_zero, rI_hold, rI_hold, rL_hold, hkd, hsz, hx, hy, hL, hS, h3, h8, h10, hQ]; exact congrArg nI (by omega))) ?_
  refine Bod.ist dc_143_67 (by rw [ml_143]; exact Nat.le_of_ble_eq_true rfl) ?_
  refine Bod.ic 1 (by decide) dc_143_69 ?_
  refine Bod.ist dc_143_70 (by rw [ml_143]; exact Nat.le_of_ble_eq_true rfl) ?_
  exact visit_loop4 hT hP hL hS ha hN hz hzN z 0 (T (T S x) y) (by omega) (by rw [hS, hS]; exact hs) (by rw [hL, hL]; exact hf) (hP (hP hp))
theorem visit_null {d k kd w x y a N : Nat} {dd : Int32} {S : cS} {T : cS → Nat → cS} {P : List Nat → cS → Prop} (hT : ∀ {t : Nat} {l : List Nat} {S : cS}, P (t :: l) S → Ans (d + 1) 144 [.ref 2, .int (nI t), .int dd] S none (T S t)) (hP : ∀ {t : Nat} {l : List Nat} {S : cS}, P (t :: l) S → P l (T S t)) (hL : ∀ (S : cS) (t : Nat), sL (T S t) = sL S) (hS : ∀ (S : cS) (t : Nat), sS (T S t) = sS S) (h3 : ∀ (S : cS) (t : Nat), sA (T S t) 3 = sA S 3) (h8 : ∀ (S : cS) (t : Nat), sA (T S t) 8 = sA S 8) (h10 : ∀ (S : cS) (t : Nat), sA (T S t) 10 = sA S 10) (hQ : ∀ (S : cS) (t : Nat), sQ (T S t) = sQ S) (h0 : 1 ≤ k) (hk : k ≤ 1500) (hkd : sA S 3 k = nI kd) (h7 : kd ≤ 7) (hw : c_width kd = w) (hx : sA S 7 k = nI x) (hy : sA S 8 k = nI y) (hr : sQ S 11 k = none) (hp : P (x :: y :: []) S) : Ans (d + 2) 143 [.ref 2, .int (nI k), .int dd] S none ((x :: y :: []).foldl T S) := by
  refine Ans.of (by rw [ml_143]; exact Nat.le_of_ble_eq_true rfl) ?_
  refine Bod.go dc_143_0 rfl ?_
  refine Bod.stat (r := []) dc_143_1 kr_143_65 (Or.inl rfl) (by rw [np_139]; rfl) (by rw [np_139]; rfl) (by rw [np_139]; exact Nat.le_of_ble_eq_true rfl) (Nat.le_of_ble_eq_true rfl) (isId_T (k := k) (by omega) (by omega)) ?_
  show Bod _ _ _ _ [_] _ _ _
  refine Bod.ifT dc_143_4 rfl (k1_ne_T (k_ne 1 0 rfl rfl (by omega) (by omega) (by omega))) ?_
  refine Bod.go dc_143_8 rfl ?_
  refine Bod.go dc_143_9 rfl ?_
  refine Bod.get dc_143_10 fr_143_24 (mk_2 _) rfl ?_
  refine Bod.go dc_143_13 rfl ?_
  refine Bod.ialdN k rfl (by omega) (by omega) dc_143_14 (mk_7 _) ?_
  refine Bod.eqI (nI x) (by first | assumption | rfl | exact congrArg nI (by omega) | (simp (disch := omega) only [rI, rIe, rA, rIA, rLA, rJA, rVI, rQI, rVA, rQA, upd_at,  rAI, rLI, rJI, nI_add, pk_sub, kc_0, kc_1, kc_2, kc_3, kc_4, kc_5, reduceIte, Nat.reduceEqDiff, Nat.add_zero, rI_hold, rI_hold, rL_hold, hkd, hx, hy, hL, hS, h3, h8, h10, hQ]; done)) ?_
  refine Bod.go dc_143_15 rfl ?_
  refine Bod.virt (r := []) dc_143_16 kr_143_84 ⟨Or.inl rfl, ow_144, cl_2⟩ (by rw [np_144]; rfl) (by rw [np_144]; rfl) (ob_of (mk_2 _)) (Nat.le_of_ble_eq_true rfl) (hT (t := x) hp) ?_
  show Bod _ _ _ _ [] _ _ _
  refine Bod.go dc_143_19 rfl ?_
  refine Bod.go dc_143_20 rfl ?_
  refine Bod.get dc_143_21 fr_143_27 (mk_2 _) rfl ?_
  refine Bod.go dc_143_24 rfl ?_
  refine Bod.ialdN k rfl (by omega) (by omega) dc_143_25 (mk_8 _) ?_
  refine Bod.eqI (nI y) (by first | (simp (disch := omega) only [rI, rIe, rA, rIA, rLA, rJA, rVI, rQI, rVA, rQA, upd_at,  rAI, rLI, rJI, nI_add, pk_sub, kc_0, kc_1, kc_2, kc_3, kc_4, kc_5, reduceIte, Nat.reduceEqDiff, Nat.add_zero, rI_hold, rI_hold, rL_hold, hkd, hx, hy, hL, hS, h3, h8, h10, hQ]; done) | (simp (disch := omega) only [rI, rIe, rA, rIA, rLA, rJA, rVI, rQI, rVA, rQA, upd_at,  rAI, rLI, rJI, nI_add, pk_sub, kc_0, kc_1, kc_2, kc_3, kc_4, kc_5, reduceIte, Nat.reduceEqDiff, Nat.add_zero, rI_hold, rI_hold, rL_hold, hkd, hx, hy, hL, hS, h3, h8, h10, hQ]; exact congrArg nI (by omega))) ?_
  refine Bod.go dc_143_26 rfl ?_
  refine Bod.virt (r := []) dc_143_27 kr_143_84 ⟨Or.inl rfl, ow_144, cl_2⟩ (by rw [np_144]; rfl) (by rw [np_144]; rfl) (ob_of (mk_2 _)) (Nat.le_of_ble_eq_true rfl) (hT (t := y) (hP hp)) ?_
  show Bod _ _ _ _ [] _ _ _
  refine Bod.go dc_143_30 rfl ?_
  refine Bod.get dc_143_31 fr_143_11 (mk_2 _) rfl ?_
  refine Bod.go dc_143_34 rfl ?_
  refine Bod.ialdN k rfl (by omega) (by omega) dc_143_35 (mk_3 _) ?_
  refine Bod.eqI (nI kd) (by first | (simp (disch := omega) only [rI, rIe, rA, rIA, rLA, rJA, rVI, rQI, rVA, rQA, upd_at,  rAI, rLI, rJI, nI_add, pk_sub, kc_0, kc_1, kc_2, kc_3, kc_4, kc_5, reduceIte, Nat.reduceEqDiff, Nat.add_zero, rI_hold, rI_hold, rL_hold, hkd, hx, hy, hL, hS, h3, h8, h10, hQ]; done) | (simp (disch := omega) only [rI, rIe, rA, rIA, rLA, rJA, rVI, rQI, rVA, rQA, upd_at,  rAI, rLI, rJI, nI_add, pk_sub, kc_0, kc_1, kc_2, kc_3, kc_4, kc_5, reduceIte, Nat.reduceEqDiff, Nat.add_zero, rI_hold, rI_hold, rL_hold, hkd, hx, hy, hL, hS, h3, h8, h10, hQ]; exact congrArg nI (by omega))) ?_
  refine Bod.stat (r := []) dc_143_36 kr_143_87 (Or.inl rfl) (by rw [np_145]; rfl) (by rw [np_145]; rfl) (by rw [np_145]; exact Nat.le_of_ble_eq_true rfl) (Nat.le_of_ble_eq_true rfl) (widthOf_ev (kd := kd) (w := w) (by omega) hw) ?_
  show Bod _ _ _ _ [_] _ _ _
  refine Bod.istn dc_143_39 (by rw [ml_143]; exact Nat.le_of_ble_eq_true rfl) ?_
  refine Bod.go dc_143_40 rfl ?_
  refine Bod.get dc_143_41 fr_143_38 (mk_2 _) rfl ?_
  refine Bod.go dc_143_44 rfl ?_
  refine Bod.aald0 k rfl (by omega) (by omega) (f := _) (N := 1501) (by simp only [rIQ, rJQ, rAQ, rLQ, rVQ, rQ_holdE, hQ]; exact hr) dc_143_45 (mk_11 _) ht_4 ?_
  refine Bod.ast0 dc_143_46 (by rw [ml_143]; exact Nat.le_of_ble_eq_true rfl) ?_
  refine Bod.go dc_143_48 rfl ?_
  refine Bod.go dc_143_50 rfl ?_
  refine Bod.ic 0 (by decide) dc_143_57 ?_
  refine Bod.go dc_143_58 rfl ?_
  refine Bod.ist dc_143_67 (by rw [ml_143]; exact Nat.le_of_ble_eq_true rfl) ?_
  refine Bod.ic 1 (by decide) dc_143_69 ?_
  refine Bod.ist dc_143_70 (by rw [ml_143]; exact Nat.le_of_ble_eq_true rfl) ?_
  refine Bod.go dc_143_72 rfl ?_
  refine Bod.go dc_143_74 rfl ?_
  refine Bod.icT dc_143_76 rfl (k2_gt_T 1 0 rfl rfl (by omega) (by omega)) ?_
  exact Bod.retV dc_143_121 rt_143
theorem visit_w0 {d k kd w x y a N : Nat} {dd : Int32} {S : cS} {T : cS → Nat → cS} {P : List Nat → cS → Prop} (hT : ∀ {t : Nat} {l : List Nat} {S : cS}, P (t :: l) S → Ans (d + 1) 144 [.ref 2, .int (nI t), .int dd] S none (T S t)) (hP : ∀ {t : Nat} {l : List Nat} {S : cS}, P (t :: l) S → P l (T S t)) (hL : ∀ (S : cS) (t : Nat), sL (T S t) = sL S) (hS : ∀ (S : cS) (t : Nat), sS (T S t) = sS S) (h3 : ∀ (S : cS) (t : Nat), sA (T S t) 3 = sA S 3) (h8 : ∀ (S : cS) (t : Nat), sA (T S t) 8 = sA S 8) (h10 : ∀ (S : cS) (t : Nat), sA (T S t) 10 = sA S 10) (hQ : ∀ (S : cS) (t : Nat), sQ (T S t) = sQ S) (h0 : 1 ≤ k) (hk : k ≤ 1500) (hkd : sA S 3 k = nI kd) (h7 : kd ≤ 7) (hw : c_width kd = 0) (hx : sA S 7 k = nI x) (hy : sA S 8 k = nI y) (hr : sQ S 11 k = some a) (ha : 108 ≤ a) (hs : (sS S)[a - 108]? = some (1, N)) (hp : P (x :: y :: []) S) : Ans (d + 2) 143 [.ref 2, .int (nI k), .int dd] S none ((x :: y :: []).foldl T S) := by
  refine Ans.of (by rw [ml_143]; exact Nat.le_of_ble_eq_true rfl) ?_
  refine Bod.go dc_143_0 rfl ?_
  refine Bod.stat (r := []) dc_143_1 kr_143_65 (Or.inl rfl) (by rw [np_139]; rfl) (by rw [np_139]; rfl) (by rw [np_139]; exact Nat.le_of_ble_eq_true rfl) (Nat.le_of_ble_eq_true rfl) (isId_T (k := k) (by omega) (by omega)) ?_
  show Bod _ _ _ _ [_] _ _ _
  refine Bod.ifT dc_143_4 rfl (k1_ne_T (k_ne 1 0 rfl rfl (by omega) (by omega) (by omega))) ?_
  refine Bod.go dc_143_8 rfl ?_
  refine Bod.go dc_143_9 rfl ?_
  refine Bod.get dc_143_10 fr_143_24 (mk_2 _) rfl ?_
  refine Bod.go dc_143_13 rfl ?_
  refine Bod.ialdN k rfl (by omega) (by omega) dc_143_14 (mk_7 _) ?_
  refine Bod.eqI (nI x) (by first | assumption | rfl | exact congrArg nI (by omega) | (simp (disch := omega) only [rI, rIe, rA, rIA, rLA, rJA, rVI, rQI, rVA, rQA, upd_at,  rAI, rLI, rJI, nI_add, pk_sub, kc_0, kc_1, kc_2, kc_3, kc_4, kc_5, reduceIte, Nat.reduceEqDiff, Nat.add_zero, rI_hold, rI_hold, rL_hold, hkd, hx, hy, hL, hS, h3, h8, h10, hQ]; done)) ?_
  refine Bod.go dc_143_15 rfl ?_
  refine Bod.virt (r := []) dc_143_16 kr_143_84 ⟨Or.inl rfl, ow_144, cl_2⟩ (by rw [np_144]; rfl) (by rw [np_144]; rfl) (ob_of (mk_2 _)) (Nat.le_of_ble_eq_true rfl) (hT (t := x) hp) ?_
  show Bod _ _ _ _ [] _ _ _
  refine Bod.go dc_143_19 rfl ?_
  refine Bod.go dc_143_20 rfl ?_
  refine Bod.get dc_143_21 fr_143_27 (mk_2 _) rfl ?_
  refine Bod.go dc_143_24 rfl ?_
  refine Bod.ialdN k rfl (by omega) (by omega) dc_143_25 (mk_8 _) ?_
  refine Bod.eqI (nI y) (by first | (simp (disch := omega) only [rI, rIe, rA, rIA, rLA, rJA, rVI, rQI, rVA, rQA, upd_at,  rAI, rLI, rJI, nI_add, pk_sub, kc_0, kc_1, kc_2, kc_3, kc_4, kc_5, reduceIte, Nat.reduceEqDiff, Nat.add_zero, rI_hold, rI_hold, rL_hold, hkd, hx, hy, hL, hS, h3, h8, h10, hQ]; done) | (simp (disch := omega) only [rI, rIe, rA, rIA, rLA, rJA, rVI, rQI, rVA, rQA, upd_at,  rAI, rLI, rJI, nI_add, pk_sub, kc_0, kc_1, kc_2, kc_3, kc_4, kc_5, reduceIte, Nat.reduceEqDiff, Nat.add_zero, rI_hold, rI_hold, rL_hold, hkd, hx, hy, hL, hS, h3, h8, h10, hQ]; exact congrArg nI (by omega))) ?_
  refine Bod.go dc_143_26 rfl ?_
  refine Bod.virt (r := []) dc_143_27 kr_143_84 ⟨Or.inl rfl, ow_144, cl_2⟩ (by rw [np_144]; rfl) (by rw [np_144]; rfl) (ob_of (mk_2 _)) (Nat.le_of_ble_eq_true rfl) (hT (t := y) (hP hp)) ?_
  show Bod _ _ _ _ [] _ _ _
  refine Bod.go dc_143_30 rfl ?_
  refine Bod.get dc_143_31 fr_143_11 (mk_2 _) rfl ?_
  refine Bod.go dc_143_34 rfl ?_
  refine Bod.ialdN k rfl (by omega) (by omega) dc_143_35 (mk_3 _) ?_
  refine Bod.eqI (nI kd) (by first | (simp (disch := omega) only [rI, rIe, rA, rIA, rLA, rJA, rVI, rQI, rVA, rQA, upd_at,  rAI, rLI, rJI, nI_add, pk_sub, kc_0, kc_1, kc_2, kc_3, kc_4, kc_5, reduceIte, Nat.reduceEqDiff, Nat.add_zero, rI_hold, rI_hold, rL_hold, hkd, hx, hy, hL, hS, h3, h8, h10, hQ]; done) | (simp (disch := omega) only [rI, rIe, rA, rIA, rLA, rJA, rVI, rQI, rVA, rQA, upd_at,  rAI, rLI, rJI, nI_add, pk_sub, kc_0, kc_1, kc_2, kc_3, kc_4, kc_5, reduceIte, Nat.reduceEqDiff, Nat.add_zero, rI_hold, rI_hold, rL_hold, hkd, hx, hy, hL, hS, h3, h8, h10, hQ]; exact congrArg nI (by omega))) ?_
  refine Bod.stat (r := []) dc_143_36 kr_143_87 (Or.inl rfl) (by rw [np_145]; rfl) (by rw [np_145]; rfl) (by rw [np_145]; exact Nat.le_of_ble_eq_true rfl) (Nat.le_of_ble_eq_true rfl) (widthOf_ev (kd := kd) (w := 0) (by omega) hw) ?_
  show Bod _ _ _ _ [_] _ _ _
  refine Bod.istn dc_143_39 (by rw [ml_143]; exact Nat.le_of_ble_eq_true rfl) ?_
  refine Bod.go dc_143_40 rfl ?_
  refine Bod.get dc_143_41 fr_143_38 (mk_2 _) rfl ?_
  refine Bod.go dc_143_44 rfl ?_
  refine Bod.aaldR (N := 1501) (b := a) k rfl (by omega) (by omega) (by simp only [rIQ, rJQ, rAQ, rLQ, rVQ, rQ_holdE, hQ]; exact hr) dc_143_45 (mk_11 _) ht_4 ?_
  refine Bod.ast dc_143_46 (by rw [ml_143]; exact Nat.le_of_ble_eq_true rfl) ?_
  refine Bod.go dc_143_48 rfl ?_
  refine Bod.go dc_143_50 rfl ?_
  refine Bod.go dc_143_53 rfl ?_
  refine Bod.ifF dc_143_54 rfl (k1_ne_F (k_eq 0 0 rfl rfl (by omega))) ?_
  refine Bod.ic 0 (by decide) dc_143_57 ?_
  refine Bod.go dc_143_58 rfl ?_
  refine Bod.ist dc_143_67 (by rw [ml_143]; exact Nat.le_of_ble_eq_true rfl) ?_
  refine Bod.ic 1 (by decide) dc_143_69 ?_
  refine Bod.ist dc_143_70 (by rw [ml_143]; exact Nat.le_of_ble_eq_true rfl) ?_
  refine Bod.go dc_143_72 rfl ?_
  refine Bod.go dc_143_74 rfl ?_
  refine Bod.icT dc_143_76 rfl (k2_gt_T 1 0 rfl rfl (by omega) (by omega)) ?_
  exact Bod.retV dc_143_121 rt_143
