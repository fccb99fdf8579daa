/-! COUNTS of the reference -/
theorem dc_367_18 : decode (sm_cc 367) 18 = .ok (.aload_n 0, 1) := by decide +kernel
theorem dc_367_19 : decode (sm_cc 367) 19 = .ok (.aload_n 0, 1) := by decide +kernel
theorem dc_367_20 : decode (sm_cc 367) 20 = .ok (.getfield 24, 3) := by decide +kernel
theorem fr_367_24 : sm_at mt_f (sm_ow 367) 24 = some (24, 14, 3, 0, 2076) := by decide +kernel
theorem dc_367_23 : decode (sm_cc 367) 23 = .ok (.iload_n 1, 1) := by decide +kernel
theorem dc_367_24 : decode (sm_cc 367) 24 = .ok (.iaload, 1) := by decide +kernel
theorem dc_367_25 : decode (sm_cc 367) 25 = .ok (.aload_n 0, 1) := by decide +kernel
theorem dc_367_26 : decode (sm_cc 367) 26 = .ok (.getfield 27, 3) := by decide +kernel
theorem fr_367_27 : sm_at mt_f (sm_ow 367) 27 = some (27, 14, 4, 0, 2077) := by decide +kernel
theorem dc_367_29 : decode (sm_cc 367) 29 = .ok (.iload_n 1, 1) := by decide +kernel
theorem dc_367_30 : decode (sm_cc 367) 30 = .ok (.laload, 1) := by decide +kernel
theorem dc_367_31 : decode (sm_cc 367) 31 = .ok (.iconst 1, 1) := by decide +kernel
theorem dc_367_32 : decode (sm_cc 367) 32 = .ok (.invokevirtual 468, 3) := by decide +kernel
theorem kr_367_468 : sm_at mt_k (sm_ow 367) 468 = some (468, 0, 369, 0, 2745) := by decide +kernel
theorem dc_367_35 : decode (sm_cc 367) 35 = .ok (.iinc 1 (1), 3) := by decide +kernel
theorem dc_367_38 : decode (sm_cc 367) 38 = .ok (.goto (-28), 3) := by decide +kernel
theorem dc_367_59 : decode (sm_cc 367) 59 = .ok (.aload_n 0, 1) := by decide +kernel
theorem dc_367_60 : decode (sm_cc 367) 60 = .ok (.aload_n 0, 1) := by decide +kernel
theorem dc_367_61 : decode (sm_cc 367) 61 = .ok (.getfield 485, 3) := by decide +kernel
theorem fr_367_485 : sm_at mt_f (sm_ow 367) 485 = some (485, 14, 42, 0, 2115) := by decide +kernel
theorem dc_367_64 : decode (sm_cc 367) 64 = .ok (.iload_n 1, 1) := by decide +kernel
theorem dc_367_65 : decode (sm_cc 367) 65 = .ok (.aaload, 1) := by decide +kernel
theorem dc_367_66 : decode (sm_cc 367) 66 = .ok (.iconst 1, 1) := by decide +kernel
theorem dc_367_67 : decode (sm_cc 367) 67 = .ok (.invokevirtual 489, 3) := by decide +kernel
theorem ow_370 : 14 = sm_ow 370 := by decide +kernel
theorem kr_367_489 : sm_at mt_k (sm_ow 367) 489 = some (489, 0, 370, 0, 2749) := by decide +kernel
theorem np_370 : sm_np 370 = 2 := by decide +kernel
theorem dc_371_10 : decode (sm_cc 371) 10 = .ok (.aload_n 0, 1) := by decide +kernel
theorem dc_371_11 : decode (sm_cc 371) 11 = .ok (.aload_n 0, 1) := by decide +kernel
theorem dc_371_12 : decode (sm_cc 371) 12 = .ok (.getfield 496, 3) := by decide +kernel
theorem fr_371_496 : sm_at mt_f (sm_ow 371) 496 = some (496, 14, 48, 0, 2121) := by decide +kernel
theorem dc_371_15 : decode (sm_cc 371) 15 = .ok (.iload_n 2, 1) := by decide +kernel
theorem dc_371_16 : decode (sm_cc 371) 16 = .ok (.iaload, 1) := by decide +kernel
theorem dc_371_17 : decode (sm_cc 371) 17 = .ok (.aload_n 0, 1) := by decide +kernel
theorem dc_371_18 : decode (sm_cc 371) 18 = .ok (.getfield 499, 3) := by decide +kernel
theorem fr_371_499 : sm_at mt_f (sm_ow 371) 499 = some (499, 14, 49, 0, 2122) := by decide +kernel
theorem dc_371_21 : decode (sm_cc 371) 21 = .ok (.iload_n 2, 1) := by decide +kernel
theorem dc_371_22 : decode (sm_cc 371) 22 = .ok (.laload, 1) := by decide +kernel
theorem dc_371_23 : decode (sm_cc 371) 23 = .ok (.iload_n 1, 1) := by decide +kernel
theorem dc_371_24 : decode (sm_cc 371) 24 = .ok (.invokevirtual 468, 3) := by decide +kernel
theorem kr_371_468 : sm_at mt_k (sm_ow 371) 468 = some (468, 0, 369, 0, 2745) := by decide +kernel
theorem dc_371_27 : decode (sm_cc 371) 27 = .ok (.iinc 2 (1), 3) := by decide +kernel
theorem dc_371_30 : decode (sm_cc 371) 30 = .ok (.goto (-28), 3) := by decide +kernel
theorem dc_371_43 : decode (sm_cc 371) 43 = .ok (.aload_n 0, 1) := by decide +kernel
theorem dc_371_44 : decode (sm_cc 371) 44 = .ok (.getfield 505, 3) := by decide +kernel
theorem fr_371_505 : sm_at mt_f (sm_ow 371) 505 = some (505, 14, 54, 0, 2127) := by decide +kernel
theorem dc_371_47 : decode (sm_cc 371) 47 = .ok (.iload_n 2, 1) := by decide +kernel
theorem dc_371_48 : decode (sm_cc 371) 48 = .ok (.iaload, 1) := by decide +kernel
theorem dc_371_49 : decode (sm_cc 371) 49 = .ok (.ifCond .lt (18), 3) := by decide +kernel
theorem dc_371_67 : decode (sm_cc 371) 67 = .ok (.iinc 2 (1), 3) := by decide +kernel
theorem dc_371_70 : decode (sm_cc 371) 70 = .ok (.goto (-35), 3) := by decide +kernel
theorem dc_371_52 : decode (sm_cc 371) 52 = .ok (.aload_n 0, 1) := by decide +kernel
theorem dc_371_53 : decode (sm_cc 371) 53 = .ok (.getfield 456, 3) := by decide +kernel
theorem fr_371_456 : sm_at mt_f (sm_ow 371) 456 = some (456, 14, 45, 0, 2118) := by decide +kernel
theorem dc_371_56 : decode (sm_cc 371) 56 = .ok (.aload_n 0, 1) := by decide +kernel
theorem dc_371_57 : decode (sm_cc 371) 57 = .ok (.getfield 505, 3) := by decide +kernel
theorem dc_371_60 : decode (sm_cc 371) 60 = .ok (.iload_n 2, 1) := by decide +kernel
theorem dc_371_61 : decode (sm_cc 371) 61 = .ok (.iaload, 1) := by decide +kernel
theorem dc_371_62 : decode (sm_cc 371) 62 = .ok (.dup2, 1) := by decide +kernel
theorem dc_371_63 : decode (sm_cc 371) 63 = .ok (.iaload, 1) := by decide +kernel
theorem dc_371_64 : decode (sm_cc 371) 64 = .ok (.iload_n 1, 1) := by decide +kernel
theorem dc_371_65 : decode (sm_cc 371) 65 = .ok (.iadd, 1) := by decide +kernel
theorem dc_371_66 : decode (sm_cc 371) 66 = .ok (.iastore, 1) := by decide +kernel
theorem Bod.lv {d j pc : Nat} {l l2 : sm_L} {st : List Value} {S Sf : cS} {v : Option Value} (e : l = l2) (h : Bod d j pc l2 st S v Sf) : Bod d j pc l st S v Sf := by
  rw [e]
  exact h
/-- ints filled with one -/
theorem fill89_loop {d : Nat} {v : Int32} : ∀ (r i : Nat) (S : cS) (w : Int32), i + r = 1500 → ∃ S', Bod d 368 5 (sm_p1 (sm_p1 (sm_p1 (lv_args 0 [.ref 89, .int v]) 2 (.int w)) 3 (.int (nI 1500))) 2 (.int (nI i))) [] S none S' ∧ Fr [] [89] S S' ∧ (∀ k, i ≤ k → k < 1500 → sA S' 89 k = v) ∧ (∀ k, k < i → sA S' 89 k = sA S 89 k) := by
  intro r
  induction r with
  | zero =>
    intro i S w hi
    refine ⟨S, ?_, Fr.refl _ _ _, fun k h1 h2 => by omega, fun _ _ => rfl⟩
    refine Bod.go dc_368_5 rfl ?_
    refine Bod.go dc_368_6 rfl ?_
    refine Bod.icT dc_368_7 rfl (k2_ge_T i 1500 rfl rfl (by omega) (by omega)) ?_
    exact Bod.retV dc_368_20 rt_368
  | succ r ih =>
    intro i S w hi
    obtain ⟨S', hb, hF, h1, h2⟩ := ih (i + 1) (wA 89 i v S) w (by omega)
    refine ⟨S', ?_, (Fr_wA (by decide) (Fr.refl _ _ S)).trans hF, ?_, ?_⟩
    · skip
      refine Bod.go dc_368_5 rfl ?_
      refine Bod.go dc_368_6 rfl ?_
      refine Bod.icF dc_368_7 rfl (k2_ge_F i 1500 rfl rfl (by omega) (by omega)) ?_
      refine Bod.go dc_368_10 rfl ?_
      refine Bod.go dc_368_11 rfl ?_
      refine Bod.go dc_368_12 rfl ?_
      refine Bod.iastN i rfl (by omega) (by omega) dc_368_13 (mk_89 _) (sa_89 _ _ _) (mu_A _ _ _ _) ?_
      refine Bod.incN (i + 1) (by rw [kc_1, nI_add]) dc_368_14 (by rw [ml_368]; exact Nat.le_of_ble_eq_true rfl) rfl ?_
      refine Bod.go dc_368_17 rfl ?_
      rw [sm_p1_p1]
      exact hb
    · intro k hk1 hk2
      by_cases e : k = i
      · subst e
        rw [h2 k (by omega), rAe, upd_at, if_pos rfl]
      · exact h1 k (by omega) hk2
    · intro k hk
      rw [h2 k (by omega), rAe, upd_at, if_neg (by omega)]
theorem fill89_ev {d : Nat} {v : Int32} {S : cS} : ∃ S', Ans (d + 1) 368 [.ref 89, .int v] S none S' ∧ Fr [] [89] S S' ∧ (∀ k, k < 1500 → sA S' 89 k = v) := by
  obtain ⟨S', hb, hF, h1, h2⟩ := fill89_loop (d := d) (v := v) 1499 1 (wA 89 0 v S) (nI 0) (by omega)
  refine ⟨S', ?_, (Fr_wA (by decide) (Fr.refl _ _ S)).trans hF, ?_⟩
  · refine Ans.of (by rw [ml_368]; exact Nat.le_of_ble_eq_true rfl) ?_
    refine Bod.ic 0 (by decide) dc_368_0 ?_
    refine Bod.istn dc_368_1 (by rw [ml_368]; exact Nat.le_of_ble_eq_true rfl) ?_
    refine Bod.go dc_368_2 rfl ?_
    refine Bod.alenN dc_368_3 (mk_89 _) (by decide +kernel) ?_
    refine Bod.istn dc_368_4 (by rw [ml_368]; exact Nat.le_of_ble_eq_true rfl) ?_
    refine Bod.go dc_368_5 rfl ?_
    refine Bod.go dc_368_6 rfl ?_
    refine Bod.icF dc_368_7 rfl (k2_ge_F 0 1500 rfl rfl (by omega) (by omega)) ?_
    refine Bod.go dc_368_10 rfl ?_
    refine Bod.go dc_368_11 rfl ?_
    refine Bod.go dc_368_12 rfl ?_
    refine Bod.iastN 0 rfl (by omega) (by omega) dc_368_13 (mk_89 _) (sa_89 _ _ _) (mu_A _ _ _ _) ?_
    refine Bod.incN 1 (by rw [kc_1, nI_add]) dc_368_14 (by rw [ml_368]; exact Nat.le_of_ble_eq_true rfl) rfl ?_
    refine Bod.go dc_368_17 rfl ?_
    exact hb
  · intro k hk
    by_cases e : k = 0
    · subst e
      rw [h2 0 (by omega), rAe, upd_at, if_pos rfl]
    · exact h1 k (by omega) hk
theorem hold_add {k : Nat} : ∀ {l : List Nat} {S : cS} {h : Nat → Nat}, (∀ o, o ∈ l → o ≤ 1500) → (∀ q, q < 1500 → sA S 89 q = nI (h q)) → k < 1500 → sA (l.foldl (tK (nI 1)) S) 89 k = nI (h k + l.count (k + 1)) := by
  intro l
  induction l with
  | nil => intro S h _ h1 hk; rw [List.count_nil]; exact h1 k hk
  | cons o l ih =>
    intro S h ho h1 hk
    show sA (l.foldl (tK (nI 1)) (tK (nI 1) S o)) 89 k = _
    have hS : ∀ q, q < 1500 → sA (tK (nI 1) S o) 89 q = nI (h q + if o = q + 1 then 1 else 0) := by
      intro q hq
      cases o with
      | zero => rw [tK_0, if_neg (by omega)]; exact h1 q hq
      | succ o =>
        rw [tK_1, rAe, upd_at]
        by_cases e : q = o
        · subst e
          rw [if_pos rfl, if_pos rfl, h1 q hq, nI_add]
        · rw [if_neg e, if_neg (by omega)]
          exact h1 q hq
    rw [ih (fun q hq => ho q (List.mem_cons_of_mem _ hq)) hS hk, count_cons']
    exact congrArg nI (by omega)
theorem nI_dec {n : Nat} : nI (n + 1) + Int32.ofInt (-1) = nI n := by
  have h : nI 1 + Int32.ofInt (-1) = nI 0 := by decide
  rw [← nI_add, Int32.add_assoc, h, nI_add, Nat.add_zero]
theorem hold_sub {k : Nat} : ∀ {l : List Nat} {S : cS} {h : Nat → Nat}, (∀ o, o ∈ l → o ≤ 1500) → (∀ q, q < 1500 → sA S 89 q = nI (h q) ∧ l.count (q + 1) ≤ h q) → k < 1500 → sA (l.foldl (tK (Int32.ofInt (-1))) S) 89 k = nI (h k - l.count (k + 1)) := by
  intro l
  induction l with
  | nil => intro S h _ h1 hk; rw [List.count_nil]; exact (h1 k hk).1
  | cons o l ih =>
    intro S h ho h1 hk
    show sA (l.foldl (tK (Int32.ofInt (-1))) (tK (Int32.ofInt (-1)) S o)) 89 k = _
    have hS : ∀ q, q < 1500 → sA (tK (Int32.ofInt (-1)) S o) 89 q = nI (h q - if o = q + 1 then 1 else 0) ∧ l.count (q + 1) ≤ h q - if o = q + 1 then 1 else 0 := by
      intro q hq
      obtain ⟨q1, q2⟩ := h1 q hq
      rw [count_cons'] at q2
      cases o with
      | zero => rw [tK_0, if_neg (by omega)]; exact ⟨q1, by omega⟩
      | succ o =>
        rw [tK_1, rAe, upd_at]
        by_cases e : q = o
        · subst e
          rw [if_pos rfl, if_pos rfl, q1]
          rw [if_pos rfl] at q2
          obtain ⟨m, hm⟩ : ∃ m, h q = m + 1 := ⟨h q - 1, by omega⟩
          rw [hm, nI_dec]
          exact ⟨rfl, by omega⟩
        · rw [if_neg e, if_neg (show ¬ o + 1 = q + 1 by omega)]
          rw [if_neg (show ¬ o + 1 = q + 1 by omega)] at q2
          exact ⟨q1, by omega⟩
    rw [ih (fun q hq => ho q (List.mem_cons_of_mem _ hq)) hS hk, count_cons']
    exact congrArg nI (by omega)
theorem cn_names {d nn gn g3 g4 : Nat} {S0 Sf : cS} {f : Nat → Nat} (hn : sI S0 6102 = nI nn) (hv3 : sV S0 6103 = .ref g3) (hv4 : sV S0 6104 = .ref g4) (hg3 : isK S0 g3 0 gn) (hg4 : isK S0 g4 1 gn) (hnn : nn ≤ gn) (hgn : gn < 2 ^ 20) (hne : g3 ∉ [89]) (hf : ∀ i, i < nn → f i = r_o (sA S0 g3 i) (sL S0 g4 i)) (ho : ∀ i, i < nn → sA S0 g3 i = nI 3 → ∃ o, o < 1500 ∧ (sL S0 g4 i).toInt32 = nI o) : ∀ (r i : Nat) (S : cS), i + r = nn → Fr [] [89] S0 S → Bod (d + 1) 367 43 (sm_p1 (lv_args 0 [.ref 61]) 1 (.int (nI 0))) [] ((seqN f i r).foldl (tK (nI 1)) S) none Sf → Bod (d + 1) 367 10 (sm_p1 (lv_args 0 [.ref 61]) 1 (.int (nI i))) [] S none Sf := by
  intro r
  induction r with
  | zero =>
    intro i S hi hF hnext
    have hn : sI S 6102 = nI nn := by rw [hF.I List.not_mem_nil]; exact hn
    have hv3 : sV S 6103 = .ref g3 := by rw [hF.2.2.1]; exact hv3
    have hv4 : sV S 6104 = .ref g4 := by rw [hF.2.2.1]; exact hv4
    have hg3 : isK S g3 0 gn := isK_S hF.2.2.2.2.1 hg3
    have hg4 : isK S g4 1 gn := isK_S hF.2.2.2.2.1 hg4
    have hA3 : sA S g3 = sA S0 g3 := hF.A hne
    have hL4 : sL S = sL S0 := hF.2.1
    refine Bod.go dc_367_10 rfl ?_
    refine Bod.go dc_367_11 rfl ?_
    refine Bod.get dc_367_12 fr_367_1 (mk_61 _) rfl ?_
    refine Bod.eqI (nI nn) (by first | assumption | rfl | exact congrArg nI (by omega) | (simp (disch := omega) only [rI, rIe, rA, rIA, rLA, rJA, rVI, rQI, rVA, rQA, upd_at,  rAI, rLI, rJI, nI_add, pk_sub, kc_0, kc_1, kc_2, kc_3, kc_4, kc_5, reduceIte, Nat.reduceEqDiff, Nat.add_zero, rI_hold, rI_hold, rL_hold, hn]; done)) ?_
    refine Bod.icT dc_367_15 rfl (k2_ge_T i nn rfl rfl (by omega) (by omega)) ?_
    refine Bod.ic 0 (by decide) dc_367_41 ?_
    refine Bod.istn dc_367_42 (by rw [ml_367]; exact Nat.le_of_ble_eq_true rfl) ?_
    exact Bod.lv (sm_p1_p1 _ 1 _ _) hnext
  | succ r ih =>
    intro i S hi hF hnext
    have hnx := ih (i + 1) (tK (nI 1) S (f i)) (by omega) (hF.trans (tK_Fr _ S (f i))) hnext
    have hn : sI S 6102 = nI nn := by rw [hF.I List.not_mem_nil]; exact hn
    have hv3 : sV S 6103 = .ref g3 := by rw [hF.2.2.1]; exact hv3
    have hv4 : sV S 6104 = .ref g4 := by rw [hF.2.2.1]; exact hv4
    have hg3 : isK S g3 0 gn := isK_S hF.2.2.2.2.1 hg3
    have hg4 : isK S g4 1 gn := isK_S hF.2.2.2.2.1 hg4
    have hA3 : sA S g3 = sA S0 g3 := hF.A hne
    have hL4 : sL S = sL S0 := hF.2.1
    have e : f i = r_o (sA S g3 i) (sL S g4 i) := by rw [hA3, hL4]; exact hf i (by omega)
    rw [e] at hnx
    refine Bod.go dc_367_10 rfl ?_
    refine Bod.go dc_367_11 rfl ?_
    refine Bod.get dc_367_12 fr_367_1 (mk_61 _) rfl ?_
    refine Bod.eqI (nI nn) (by first | assumption | rfl | exact congrArg nI (by omega) | (simp (disch := omega) only [rI, rIe, rA, rIA, rLA, rJA, rVI, rQI, rVA, rQA, upd_at,  rAI, rLI, rJI, nI_add, pk_sub, kc_0, kc_1, kc_2, kc_3, kc_4, kc_5, reduceIte, Nat.reduceEqDiff, Nat.add_zero, rI_hold, rI_hold, rL_hold, hn]; done)) ?_
    refine Bod.icF dc_367_15 rfl (k2_ge_F i nn rfl rfl (by omega) (by omega)) ?_
    refine Bod.go dc_367_18 rfl ?_
    refine Bod.go dc_367_19 rfl ?_
    refine Bod.get dc_367_20 fr_367_24 (mk_61 _) rfl ?_
    refine Bod.eqV (.ref g3) hv3 ?_
    refine Bod.go dc_367_23 rfl ?_
    refine Bod.ialdN (N := gn) i rfl (by omega) (by omega) dc_367_24 (mk_isI hg3) ?_
    refine Bod.go dc_367_25 rfl ?_
    refine Bod.get dc_367_26 fr_367_27 (mk_61 _) rfl ?_
    refine Bod.eqV (.ref g4) hv4 ?_
    refine Bod.go dc_367_29 rfl ?_
    refine Bod.laldN (N := gn) i rfl (by omega) (by omega) dc_367_30 (mk_isL hg4) ?_
    refine Bod.ic 1 (by decide) dc_367_31 ?_
    refine Bod.virt (r := []) dc_367_32 kr_367_468 ⟨Or.inl rfl, ow_369, cl_14⟩ (by rw [np_369]; rfl) (by rw [np_369]; rfl) (ob_of (mk_61 _)) (Nat.le_of_ble_eq_true rfl) (rhold_ev (c := (sA S g3 i)) (x := (sL S g4 i)) (b := (nI 1)) (by rw [hA3, hL4]; exact ho i (by omega))) ?_
    show Bod _ _ _ _ [] _ _ _
    refine Bod.incN (i + 1) (by rw [kc_1, nI_add]) dc_367_35 (by rw [ml_367]; exact Nat.le_of_ble_eq_true rfl) rfl ?_
    refine Bod.go dc_367_38 rfl ?_
    rw [sm_p1_p1]
    exact hnx
theorem cn_dead {d i : Nat} {S Sf : cS} (hi : i < 1500) (he : sA S 87 i = 0) (hn : Bod (d + 2) 367 43 (sm_p1 (lv_args 0 [.ref 61]) 1 (.int (nI (i + 1)))) [] S none Sf) : Bod (d + 2) 367 43 (sm_p1 (lv_args 0 [.ref 61]) 1 (.int (nI i))) [] S none Sf := by
  refine Bod.go dc_367_43 rfl ?_
  refine Bod.sip 1500 (by decide) dc_367_44 ?_
  refine Bod.icF dc_367_47 rfl (k2_ge_F i 1500 rfl rfl (by omega) (by omega)) ?_
  refine Bod.go dc_367_50 rfl ?_
  refine Bod.get dc_367_51 fr_367_481 (mk_61 _) rfl ?_
  refine Bod.go dc_367_54 rfl ?_
  refine Bod.baldN i rfl (by omega) (by omega) dc_367_55 (mk_87 _) (Or.inr rfl) ?_
  refine Bod.ifT dc_367_56 rfl (k1_eq_T he) ?_
  refine Bod.incN (i + 1) (by rw [kc_1, nI_add]) dc_367_70 (by rw [ml_367]; exact Nat.le_of_ble_eq_true rfl) rfl ?_
  refine Bod.go dc_367_73 rfl ?_
  rw [sm_p1_p1]
  exact hn
theorem cn_live {d i t N : Nat} {S S1 Sf : cS} (hi : i < 1500) (he : sA S 87 i ≠ 0) (hq : sQ S 86 i = some t) (ht : 108 ≤ t) (hs : (sS S)[t - 108]? = some (13, N)) (hH : Ans (d + 2) 370 [.ref 61, .ref t, .int (nI 1)] S none S1) (hn : Bod (d + 2) 367 43 (sm_p1 (lv_args 0 [.ref 61]) 1 (.int (nI (i + 1)))) [] S1 none Sf) : Bod (d + 2) 367 43 (sm_p1 (lv_args 0 [.ref 61]) 1 (.int (nI i))) [] S none Sf := by
  refine Bod.go dc_367_43 rfl ?_
  refine Bod.sip 1500 (by decide) dc_367_44 ?_
  refine Bod.icF dc_367_47 rfl (k2_ge_F i 1500 rfl rfl (by omega) (by omega)) ?_
  refine Bod.go dc_367_50 rfl ?_
  refine Bod.get dc_367_51 fr_367_481 (mk_61 _) rfl ?_
  refine Bod.go dc_367_54 rfl ?_
  refine Bod.baldN i rfl (by omega) (by omega) dc_367_55 (mk_87 _) (Or.inr rfl) ?_
  refine Bod.ifF dc_367_56 rfl (k1_eq_F he) ?_
  refine Bod.go dc_367_59 rfl ?_
  refine Bod.go dc_367_60 rfl ?_
  refine Bod.get dc_367_61 fr_367_485 (mk_61 _) rfl ?_
  refine Bod.go dc_367_64 rfl ?_
  refine Bod.aaldR (N := 1500) (b := t) i rfl (by omega) (by omega) hq dc_367_65 (mk_86 _) ht_5 ?_
  refine Bod.ic 1 (by decide) dc_367_66 ?_
  refine Bod.virt (r := []) dc_367_67 kr_367_489 ⟨Or.inl rfl, ow_370, cl_14⟩ (by rw [np_370]; rfl) (by rw [np_370]; rfl) (ob_of (mk_61 _)) (Nat.le_of_ble_eq_true rfl) (hH  ) ?_
  show Bod _ _ _ _ [] _ _ _
  refine Bod.incN (i + 1) (by rw [kc_1, nI_add]) dc_367_70 (by rw [ml_367]; exact Nat.le_of_ble_eq_true rfl) rfl ?_
  refine Bod.go dc_367_73 rfl ?_
  rw [sm_p1_p1]
  exact hn
theorem cn_end {d i : Nat} {S : cS} (hi : i = 1500) : Bod (d + 2) 367 43 (sm_p1 (lv_args 0 [.ref 61]) 1 (.int (nI i))) [] S none S := by
  refine Bod.go dc_367_43 rfl ?_
  refine Bod.sip 1500 (by decide) dc_367_44 ?_
  refine Bod.icT dc_367_47 rfl (k2_ge_T i 1500 rfl rfl (by omega) (by omega)) ?_
  exact Bod.retV dc_367_76 rt_367
theorem cn_in {d : Nat} {S S1 Sf : cS} (hF0 : Ans (d + 1) 368 [.ref 89, .int (nI 0)] S none S1) (hn : Bod (d + 2) 367 10 (sm_p1 (lv_args 0 [.ref 61]) 1 (.int (nI 0))) [] S1 none Sf) : Ans (d + 3) 367 [.ref 61] S none Sf := by
  refine Ans.of (by rw [ml_367]; exact Nat.le_of_ble_eq_true rfl) ?_
  have hF0 := Ans.up (Nat.le_succ _) hF0
  refine Bod.go dc_367_0 rfl ?_
  refine Bod.get dc_367_1 fr_367_456 (mk_61 _) rfl ?_
  refine Bod.ic 0 (by decide) dc_367_4 ?_
  refine Bod.stat (r := []) dc_367_5 kr_367_478 (Or.inl rfl) (by rw [np_368]; rfl) (by rw [np_368]; rfl) (by rw [np_368]; exact Nat.le_of_ble_eq_true rfl) (Nat.le_of_ble_eq_true rfl) (hF0  ) ?_
  show Bod _ _ _ _ [] _ _ _
  refine Bod.ic 0 (by decide) dc_367_8 ?_
  refine Bod.istn dc_367_9 (by rw [ml_367]; exact Nat.le_of_ble_eq_true rfl) ?_
  exact hn
theorem cw_stack {d nn : Nat} {b : Int32} {S0 Sf : cS} {f : Nat → Nat} (hn : sI S0 6151 = nI nn) (hnn : nn ≤ 20480) (hf : ∀ i, i < nn → f i = r_o (sA S0 91 i) (sL S0 92 i)) (ho : ∀ i, i < nn → sA S0 91 i = nI 3 → ∃ o, o < 1500 ∧ (sL S0 92 i).toInt32 = nI o) : ∀ (r i : Nat) (S : cS), i + r = nn → Fr [] [89] S0 S → Bod (d + 1) 371 35 (sm_p1 (lv_args 0 [.ref 61, .int b]) 2 (.int (nI 0))) [] ((seqN f i r).foldl (tK b) S) none Sf → Bod (d + 1) 371 2 (sm_p1 (lv_args 0 [.ref 61, .int b]) 2 (.int (nI i))) [] S none Sf := by
  intro r
  induction r with
  | zero =>
    intro i S hi hF hnext
    have hn : sI S 6151 = nI nn := by rw [hF.I List.not_mem_nil]; exact hn
    have hA3 : sA S 91 = sA S0 91 := hF.A (by decide)
    have hL4 : sL S = sL S0 := hF.2.1
    refine Bod.go dc_371_2 rfl ?_
    refine Bod.go dc_371_3 rfl ?_
    refine Bod.get dc_371_4 fr_371_493 (mk_61 _) rfl ?_
    refine Bod.eqI (nI nn) (by first | assumption | rfl | exact congrArg nI (by omega) | (simp (disch := omega) only [rI, rIe, rA, rIA, rLA, rJA, rVI, rQI, rVA, rQA, upd_at,  rAI, rLI, rJI, nI_add, pk_sub, kc_0, kc_1, kc_2, kc_3, kc_4, kc_5, reduceIte, Nat.reduceEqDiff, Nat.add_zero, rI_hold, rI_hold, rL_hold, hn]; done)) ?_
    refine Bod.icT dc_371_7 rfl (k2_ge_T i nn rfl rfl (by omega) (by omega)) ?_
    refine Bod.ic 0 (by decide) dc_371_33 ?_
    refine Bod.istn dc_371_34 (by rw [ml_371]; exact Nat.le_of_ble_eq_true rfl) ?_
    exact Bod.lv (sm_p1_p1 _ 2 _ _) hnext
  | succ r ih =>
    intro i S hi hF hnext
    have hnx := ih (i + 1) (tK b S (f i)) (by omega) (hF.trans (tK_Fr _ S (f i))) hnext
    have hn : sI S 6151 = nI nn := by rw [hF.I List.not_mem_nil]; exact hn
    have hA3 : sA S 91 = sA S0 91 := hF.A (by decide)
    have hL4 : sL S = sL S0 := hF.2.1
    have e : f i = r_o (sA S 91 i) (sL S 92 i) := by rw [hA3, hL4]; exact hf i (by omega)
    rw [e] at hnx
    refine Bod.go dc_371_2 rfl ?_
    refine Bod.go dc_371_3 rfl ?_
    refine Bod.get dc_371_4 fr_371_493 (mk_61 _) rfl ?_
    refine Bod.eqI (nI nn) (by first | assumption | rfl | exact congrArg nI (by omega) | (simp (disch := omega) only [rI, rIe, rA, rIA, rLA, rJA, rVI, rQI, rVA, rQA, upd_at,  rAI, rLI, rJI, nI_add, pk_sub, kc_0, kc_1, kc_2, kc_3, kc_4, kc_5, reduceIte, Nat.reduceEqDiff, Nat.add_zero, rI_hold, rI_hold, rL_hold, hn]; done)) ?_
    refine Bod.icF dc_371_7 rfl (k2_ge_F i nn rfl rfl (by omega) (by omega)) ?_
    refine Bod.go dc_371_10 rfl ?_
    refine Bod.go dc_371_11 rfl ?_
    refine Bod.get dc_371_12 fr_371_496 (mk_61 _) rfl ?_
    refine Bod.go dc_371_15 rfl ?_
    refine Bod.ialdN i rfl (by omega) (by omega) dc_371_16 (mk_91 _) ?_
    refine Bod.go dc_371_17 rfl ?_
    refine Bod.get dc_371_18 fr_371_499 (mk_61 _) rfl ?_
    refine Bod.go dc_371_21 rfl ?_
    refine Bod.laldN i rfl (by omega) (by omega) dc_371_22 (mk_92 _) ?_
    refine Bod.go dc_371_23 rfl ?_
    refine Bod.virt (r := []) dc_371_24 kr_371_468 ⟨Or.inl rfl, ow_369, cl_14⟩ (by rw [np_369]; rfl) (by rw [np_369]; rfl) (ob_of (mk_61 _)) (Nat.le_of_ble_eq_true rfl) (rhold_ev (c := (sA S 91 i)) (x := (sL S 92 i)) (b := b) (by rw [hA3, hL4]; exact ho i (by omega))) ?_
    show Bod _ _ _ _ [] _ _ _
    refine Bod.incN (i + 1) (by rw [kc_1, nI_add]) dc_371_27 (by rw [ml_371]; exact Nat.le_of_ble_eq_true rfl) rfl ?_
    refine Bod.go dc_371_30 rfl ?_
    rw [sm_p1_p1]
    exact hnx
theorem cw_calls {d nn : Nat} {b : Int32} {S0 : cS} (hn : sI S0 6159 = nI nn) (hnn : nn ≤ 31) (ho : ∀ i, i < nn → r_lk (sA S0 96 i)) : ∀ (r i : Nat) (S : cS), i + r = nn → Fr [] [89] S0 S → Bod (d + 1) 371 35 (sm_p1 (lv_args 0 [.ref 61, .int b]) 2 (.int (nI i))) [] S none ((seqN (fun i => r_opt (sA S0 96 i)) i r).foldl (tK b) S) := by
  intro r
  induction r with
  | zero =>
    intro i S hi hF
    have hn : sI S 6159 = nI nn := by rw [hF.I List.not_mem_nil]; exact hn
    have hA3 : sA S 96 = sA S0 96 := hF.A (by decide)
    show Bod _ _ _ _ _ _ _ S
    refine Bod.go dc_371_35 rfl ?_
    refine Bod.go dc_371_36 rfl ?_
    refine Bod.get dc_371_37 fr_371_502 (mk_61 _) rfl ?_
    refine Bod.eqI (nI nn) (by first | assumption | rfl | exact congrArg nI (by omega) | (simp (disch := omega) only [rI, rIe, rA, rIA, rLA, rJA, rVI, rQI, rVA, rQA, upd_at,  rAI, rLI, rJI, nI_add, pk_sub, kc_0, kc_1, kc_2, kc_3, kc_4, kc_5, reduceIte, Nat.reduceEqDiff, Nat.add_zero, rI_hold, rI_hold, rL_hold, hn]; done)) ?_
    refine Bod.icT dc_371_40 rfl (k2_ge_T i nn rfl rfl (by omega) (by omega)) ?_
    exact Bod.retV dc_371_73 rt_371
  | succ r ih =>
    intro i S hi hF
    have hnx := ih (i + 1) (tK b S (r_opt (sA S0 96 i))) (by omega) (hF.trans (tK_Fr _ S _))
    have hn : sI S 6159 = nI nn := by rw [hF.I List.not_mem_nil]; exact hn
    have hA3 : sA S 96 = sA S0 96 := hF.A (by decide)
    show Bod _ _ _ _ _ _ _ ((seqN (fun i => r_opt (sA S0 96 i)) (i + 1) r).foldl (tK b) (tK b S (r_opt (sA S0 96 i))))
    rcases ho i (by omega) with hc | ⟨h, hb, hc⟩
    · rw [hc, r_opt_n, tK_0] at hnx ⊢
      rw [← hA3] at hc
      refine Bod.go dc_371_35 rfl ?_
      refine Bod.go dc_371_36 rfl ?_
      refine Bod.get dc_371_37 fr_371_502 (mk_61 _) rfl ?_
      refine Bod.eqI (nI nn) (by first | assumption | rfl | exact congrArg nI (by omega) | (simp (disch := omega) only [rI, rIe, rA, rIA, rLA, rJA, rVI, rQI, rVA, rQA, upd_at,  rAI, rLI, rJI, nI_add, pk_sub, kc_0, kc_1, kc_2, kc_3, kc_4, kc_5, reduceIte, Nat.reduceEqDiff, Nat.add_zero, rI_hold, rI_hold, rL_hold, hn]; done)) ?_
      refine Bod.icF dc_371_40 rfl (k2_ge_F i nn rfl rfl (by omega) (by omega)) ?_
      refine Bod.go dc_371_43 rfl ?_
      refine Bod.get dc_371_44 fr_371_505 (mk_61 _) rfl ?_
      refine Bod.go dc_371_47 rfl ?_
      refine Bod.ialdN i rfl (by omega) (by omega) dc_371_48 (mk_96 _) ?_
      refine Bod.eqI (Int32.ofInt (-1)) hc ?_
      refine Bod.ifT dc_371_49 rfl (by decide) ?_
      refine Bod.incN (i + 1) (by rw [kc_1, nI_add]) dc_371_67 (by rw [ml_371]; exact Nat.le_of_ble_eq_true rfl) rfl ?_
      refine Bod.go dc_371_70 rfl ?_
      rw [sm_p1_p1]
      exact hnx
    · rw [hc, r_opt_y hb, tK_1] at hnx ⊢
      rw [← hA3] at hc
      refine Bod.go dc_371_35 rfl ?_
      refine Bod.go dc_371_36 rfl ?_
      refine Bod.get dc_371_37 fr_371_502 (mk_61 _) rfl ?_
      refine Bod.eqI (nI nn) (by first | assumption | rfl | exact congrArg nI (by omega) | (simp (disch := omega) only [rI, rIe, rA, rIA, rLA, rJA, rVI, rQI, rVA, rQA, upd_at,  rAI, rLI, rJI, nI_add, pk_sub, kc_0, kc_1, kc_2, kc_3, kc_4, kc_5, reduceIte, Nat.reduceEqDiff, Nat.add_zero, rI_hold, rI_hold, rL_hold, hn, hc]; done)) ?_
      refine Bod.icF dc_371_40 rfl (k2_ge_F i nn rfl rfl (by omega) (by omega)) ?_
      refine Bod.go dc_371_43 rfl ?_
      refine Bod.get dc_371_44 fr_371_505 (mk_61 _) rfl ?_
      refine Bod.go dc_371_47 rfl ?_
      refine Bod.ialdN i rfl (by omega) (by omega) dc_371_48 (mk_96 _) ?_
      refine Bod.eqI (nI h) (by first | assumption | rfl | exact congrArg nI (by omega) | (simp (disch := omega) only [rI, rIe, rA, rIA, rLA, rJA, rVI, rQI, rVA, rQA, upd_at,  rAI, rLI, rJI, nI_add, pk_sub, kc_0, kc_1, kc_2, kc_3, kc_4, kc_5, reduceIte, Nat.reduceEqDiff, Nat.add_zero, rI_hold, rI_hold, rL_hold, hn, hc]; done)) ?_
      refine Bod.ifF dc_371_49 rfl (k1_lt_F h rfl (by omega)) ?_
      refine Bod.go dc_371_52 rfl ?_
      refine Bod.get dc_371_53 fr_371_456 (mk_61 _) rfl ?_
      refine Bod.go dc_371_56 rfl ?_
      refine Bod.get dc_371_57 fr_371_505 (mk_61 _) rfl ?_
      refine Bod.go dc_371_60 rfl ?_
      refine Bod.ialdN i rfl (by omega) (by omega) dc_371_61 (mk_96 _) ?_
      refine Bod.eqI (nI h) (by first | assumption | rfl | exact congrArg nI (by omega) | (simp (disch := omega) only [rI, rIe, rA, rIA, rLA, rJA, rVI, rQI, rVA, rQA, upd_at,  rAI, rLI, rJI, nI_add, pk_sub, kc_0, kc_1, kc_2, kc_3, kc_4, kc_5, reduceIte, Nat.reduceEqDiff, Nat.add_zero, rI_hold, rI_hold, rL_hold, hn, hc]; done)) ?_
      refine Bod.go dc_371_62 rfl ?_
      refine Bod.ialdN h rfl (by omega) (by omega) dc_371_63 (mk_89 _) ?_
      refine Bod.go dc_371_64 rfl ?_
      refine Bod.go dc_371_65 rfl ?_
      refine Bod.iastN h rfl (by omega) (by omega) dc_371_66 (mk_89 _) (sa_89 _ _ _) (mu_A _ _ _ _) ?_
      refine Bod.incN (i + 1) (by rw [kc_1, nI_add]) dc_371_67 (by rw [ml_371]; exact Nat.le_of_ble_eq_true rfl) rfl ?_
      refine Bod.go dc_371_70 rfl ?_
      rw [sm_p1_p1]
      exact hnx
theorem cw_in {d : Nat} {b : Int32} {S Sf : cS} (hn : Bod (d + 1) 371 2 (sm_p1 (lv_args 0 [.ref 61, .int b]) 2 (.int (nI 0))) [] S none Sf) : Ans (d + 2) 371 [.ref 61, .int b] S none Sf := by
  refine Ans.of (by rw [ml_371]; exact Nat.le_of_ble_eq_true rfl) ?_
  refine Bod.ic 0 (by decide) dc_371_0 ?_
  refine Bod.istn dc_371_1 (by rw [ml_371]; exact Nat.le_of_ble_eq_true rfl) ?_
  exact hn
