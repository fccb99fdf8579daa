/-! ASSIGN, whatever goes -/

theorem assign_uu {d : Nat} {S : cS} {k : Nat} {b : Nat} {hi : Int64} {lo : Int64} {o : Nat} {oo : Nat} {S1 : cS} (hk : k < 4096) (hb : sI S 1608 = nI b) (hbM : b ≤ 4096) (h0 : c_kind (sL S 21 k) = 0) (h1 : c_kind hi = 0) (ho : c_obj hi lo = nI o) (ho2 : o ≤ 1500) (hoo : c_obj (sL S 21 k) (sL S 22 k) = nI oo) (hR : Ans (d + 3) 142 [.ref 2, .ref 5, .int (nI oo)] (c_hold 5 o (wL 22 k lo (wL 21 k hi S))) none S1) : Ans (d + 4) 173 [.ref 16, .int (nI k), .long hi, .long lo] S (none) (S1) := by
  refine Ans.of (by rw [ml_173]; exact Nat.le_of_ble_eq_true rfl) ?_
  refine Bod.go dc_173_0 rfl ?_
  refine Bod.go dc_173_1 rfl ?_
  refine Bod.virt (r := []) dc_173_2 kr_173_81 ⟨Or.inl rfl, ow_170, cl_5⟩ (by rw [np_170]; rfl) (by rw [np_170]; rfl) (ob_of (mk_16 _)) (Nat.le_of_ble_eq_true rfl) (known_T (k := k) (by omega)) ?_
  show Bod _ _ _ _ [_] _ _ _
  refine Bod.ifT dc_173_5 rfl (k1_ne_T (k_ne 1 0 rfl rfl (by omega) (by omega) (by omega))) ?_
  refine Bod.go dc_173_9 rfl ?_
  refine Bod.get dc_173_10 fr_173_29 (mk_16 _) rfl ?_
  refine Bod.go dc_173_13 rfl ?_
  refine Bod.laldN k rfl (by omega) (by omega) dc_173_14 (mk_21 _) ?_
  refine Bod.lst dc_173_15 (by rw [ml_173]; exact Nat.le_of_ble_eq_true rfl) ?_
  refine Bod.go dc_173_17 rfl ?_
  refine Bod.get dc_173_18 fr_173_32 (mk_16 _) rfl ?_
  refine Bod.go dc_173_21 rfl ?_
  refine Bod.laldN k rfl (by omega) (by omega) dc_173_22 (mk_22 _) ?_
  refine Bod.lst dc_173_23 (by rw [ml_173]; exact Nat.le_of_ble_eq_true rfl) ?_
  refine Bod.go dc_173_25 rfl ?_
  refine Bod.stat (r := []) dc_173_27 kr_173_88 (Or.inr rfl) (by rw [np_134]; rfl) (by rw [np_134]; rfl) (by rw [np_134]; exact Nat.le_of_ble_eq_true rfl) (Nat.le_of_ble_eq_true rfl) (kindOf_ev (hi := (sL S 21 k)) ) ?_
  show Bod _ _ _ _ [_] _ _ _
  refine Bod.ifT dc_173_30 rfl (k1_eq_T h0) ?_
  refine Bod.go dc_173_43 rfl ?_
  refine Bod.stat (r := []) dc_173_44 kr_173_88 (Or.inr rfl) (by rw [np_134]; rfl) (by rw [np_134]; rfl) (by rw [np_134]; exact Nat.le_of_ble_eq_true rfl) (Nat.le_of_ble_eq_true rfl) (kindOf_ev (hi := hi) ) ?_
  show Bod _ _ _ _ [_] _ _ _
  refine Bod.ifT dc_173_47 rfl (k1_eq_T h1) ?_
  refine Bod.go dc_173_60 rfl ?_
  refine Bod.get dc_173_61 fr_173_29 (mk_16 _) rfl ?_
  refine Bod.go dc_173_64 rfl ?_
  refine Bod.go dc_173_65 rfl ?_
  refine Bod.lastN k rfl (by omega) (by omega) dc_173_66 (mk_21 _) (sa_21 _ _ _) (mu_L _ _ _ _) ?_
  refine Bod.go dc_173_67 rfl ?_
  refine Bod.get dc_173_68 fr_173_32 (mk_16 _) rfl ?_
  refine Bod.go dc_173_71 rfl ?_
  refine Bod.go dc_173_72 rfl ?_
  refine Bod.lastN k rfl (by omega) (by omega) dc_173_74 (mk_22 _) (sa_22 _ _ _) (mu_L _ _ _ _) ?_
  refine Bod.go dc_173_75 rfl ?_
  refine Bod.get dc_173_76 fr_173_11 (mk_16 _) rfl ?_
  refine Bod.go dc_173_79 rfl ?_
  refine Bod.get dc_173_80 fr_173_11 (mk_16 _) rfl ?_
  refine Bod.get dc_173_83 fr_173_92 (mk_2 _) rfl ?_
  refine Bod.go dc_173_86 rfl ?_
  refine Bod.go dc_173_87 rfl ?_
  refine Bod.stat (r := [_, _]) dc_173_89 kr_173_97 (Or.inr rfl) (by rw [np_137]; rfl) (by rw [np_137]; rfl) (by rw [np_137]; exact Nat.le_of_ble_eq_true rfl) (Nat.le_of_ble_eq_true rfl) (objectOf_n (hi := hi) (lo := lo) (o := o) ho) ?_
  show Bod _ _ _ _ [_, _, _] _ _ _
  refine Bod.virt (r := []) dc_173_92 kr_173_100 ⟨Or.inr rfl, ow_149, cl_2⟩ (by rw [np_149]; rfl) (by rw [np_149]; rfl) (ob_of (mk_2 _)) (Nat.le_of_ble_eq_true rfl) (hold_ev (a := 5) (k := o) (Or.inr (Or.inl rfl)) (by omega)) ?_
  show Bod _ _ _ _ [] _ _ _
  refine Bod.go dc_173_95 rfl ?_
  refine Bod.get dc_173_96 fr_173_11 (mk_16 _) rfl ?_
  refine Bod.go dc_173_99 rfl ?_
  refine Bod.get dc_173_100 fr_173_11 (mk_16 _) rfl ?_
  refine Bod.get dc_173_103 fr_173_92 (mk_2 _) rfl ?_
  refine Bod.go dc_173_106 rfl ?_
  refine Bod.go dc_173_108 rfl ?_
  refine Bod.stat (r := [_, _]) dc_173_110 kr_173_97 (Or.inr rfl) (by rw [np_137]; rfl) (by rw [np_137]; rfl) (by rw [np_137]; exact Nat.le_of_ble_eq_true rfl) (Nat.le_of_ble_eq_true rfl) (objectOf_n (hi := (sL S 21 k)) (lo := (sL S 22 k)) (o := oo) hoo) ?_
  show Bod _ _ _ _ [_, _, _] _ _ _
  refine Bod.virt (r := []) dc_173_113 kr_173_104 ⟨Or.inr rfl, ow_142, cl_2⟩ (by rw [np_142]; rfl) (by rw [np_142]; rfl) (ob_of (mk_2 _)) (Nat.le_of_ble_eq_true rfl) (hR  ) ?_
  show Bod _ _ _ _ [] _ _ _
  exact Bod.retV dc_173_116 rt_173
theorem assign_ub {d : Nat} {S : cS} {k : Nat} {b : Nat} {hi : Int64} {lo : Int64} {o : Nat} {oo : Nat} {S1 : cS} (hk : k < 4096) (hb : sI S 1608 = nI b) (hbM : b ≤ 4096) (h0 : c_kind (sL S 21 k) = 0) (h1 : c_kind hi ≠ 0) (ho : c_obj hi lo = nI o) (ho2 : o ≤ 1500) (hoo : c_obj (sL S 21 k) (sL S 22 k) = nI oo) (hR : Ans (d + 3) 142 [.ref 2, .ref 5, .int (nI oo)] (c_hold 5 o (wL 22 k lo (wL 21 k hi (wI 1608 (nI (b + 1)) S)))) none S1) : Ans (d + 4) 173 [.ref 16, .int (nI k), .long hi, .long lo] S (none) (S1) := by
  refine Ans.of (by rw [ml_173]; exact Nat.le_of_ble_eq_true rfl) ?_
  refine Bod.go dc_173_0 rfl ?_
  refine Bod.go dc_173_1 rfl ?_
  refine Bod.virt (r := []) dc_173_2 kr_173_81 ⟨Or.inl rfl, ow_170, cl_5⟩ (by rw [np_170]; rfl) (by rw [np_170]; rfl) (ob_of (mk_16 _)) (Nat.le_of_ble_eq_true rfl) (known_T (k := k) (by omega)) ?_
  show Bod _ _ _ _ [_] _ _ _
  refine Bod.ifT dc_173_5 rfl (k1_ne_T (k_ne 1 0 rfl rfl (by omega) (by omega) (by omega))) ?_
  refine Bod.go dc_173_9 rfl ?_
  refine Bod.get dc_173_10 fr_173_29 (mk_16 _) rfl ?_
  refine Bod.go dc_173_13 rfl ?_
  refine Bod.laldN k rfl (by omega) (by omega) dc_173_14 (mk_21 _) ?_
  refine Bod.lst dc_173_15 (by rw [ml_173]; exact Nat.le_of_ble_eq_true rfl) ?_
  refine Bod.go dc_173_17 rfl ?_
  refine Bod.get dc_173_18 fr_173_32 (mk_16 _) rfl ?_
  refine Bod.go dc_173_21 rfl ?_
  refine Bod.laldN k rfl (by omega) (by omega) dc_173_22 (mk_22 _) ?_
  refine Bod.lst dc_173_23 (by rw [ml_173]; exact Nat.le_of_ble_eq_true rfl) ?_
  refine Bod.go dc_173_25 rfl ?_
  refine Bod.stat (r := []) dc_173_27 kr_173_88 (Or.inr rfl) (by rw [np_134]; rfl) (by rw [np_134]; rfl) (by rw [np_134]; exact Nat.le_of_ble_eq_true rfl) (Nat.le_of_ble_eq_true rfl) (kindOf_ev (hi := (sL S 21 k)) ) ?_
  show Bod _ _ _ _ [_] _ _ _
  refine Bod.ifT dc_173_30 rfl (k1_eq_T h0) ?_
  refine Bod.go dc_173_43 rfl ?_
  refine Bod.stat (r := []) dc_173_44 kr_173_88 (Or.inr rfl) (by rw [np_134]; rfl) (by rw [np_134]; rfl) (by rw [np_134]; exact Nat.le_of_ble_eq_true rfl) (Nat.le_of_ble_eq_true rfl) (kindOf_ev (hi := hi) ) ?_
  show Bod _ _ _ _ [_] _ _ _
  refine Bod.ifF dc_173_47 rfl (k1_eq_F h1) ?_
  refine Bod.go dc_173_50 rfl ?_
  refine Bod.go dc_173_51 rfl ?_
  refine Bod.get dc_173_52 fr_173_85 (mk_16 _) rfl ?_
  refine Bod.eqI (nI b) (by first | assumption | rfl | exact congrArg nI (by omega) | (simp (disch := omega) only [rI, rIe, rA, rIA, rLA, rJA, rVI, rQI, rVA, rQA, upd_at,  rAI, rLI, rJI, nI_add, pk_sub, kc_0, kc_1, kc_2, kc_3, kc_4, kc_5, reduceIte, Nat.reduceEqDiff, Nat.add_zero, rI_hold, rI_hold, rL_hold, hb]; done)) ?_
  refine Bod.ic 1 (by decide) dc_173_55 ?_
  refine Bod.addN (b + 1) (by omega) dc_173_56 ?_
  refine Bod.put dc_173_57 fr_173_85 (mk_16 _) (Nat.le_of_ble_eq_true rfl) pf_5_8 (st_1608 _ _) (mu_I _ _ _) ?_
  refine Bod.go dc_173_60 rfl ?_
  refine Bod.get dc_173_61 fr_173_29 (mk_16 _) rfl ?_
  refine Bod.go dc_173_64 rfl ?_
  refine Bod.go dc_173_65 rfl ?_
  refine Bod.lastN k rfl (by omega) (by omega) dc_173_66 (mk_21 _) (sa_21 _ _ _) (mu_L _ _ _ _) ?_
  refine Bod.go dc_173_67 rfl ?_
  refine Bod.get dc_173_68 fr_173_32 (mk_16 _) rfl ?_
  refine Bod.go dc_173_71 rfl ?_
  refine Bod.go dc_173_72 rfl ?_
  refine Bod.lastN k rfl (by omega) (by omega) dc_173_74 (mk_22 _) (sa_22 _ _ _) (mu_L _ _ _ _) ?_
  refine Bod.go dc_173_75 rfl ?_
  refine Bod.get dc_173_76 fr_173_11 (mk_16 _) rfl ?_
  refine Bod.go dc_173_79 rfl ?_
  refine Bod.get dc_173_80 fr_173_11 (mk_16 _) rfl ?_
  refine Bod.get dc_173_83 fr_173_92 (mk_2 _) rfl ?_
  refine Bod.go dc_173_86 rfl ?_
  refine Bod.go dc_173_87 rfl ?_
  refine Bod.stat (r := [_, _]) dc_173_89 kr_173_97 (Or.inr rfl) (by rw [np_137]; rfl) (by rw [np_137]; rfl) (by rw [np_137]; exact Nat.le_of_ble_eq_true rfl) (Nat.le_of_ble_eq_true rfl) (objectOf_n (hi := hi) (lo := lo) (o := o) ho) ?_
  show Bod _ _ _ _ [_, _, _] _ _ _
  refine Bod.virt (r := []) dc_173_92 kr_173_100 ⟨Or.inr rfl, ow_149, cl_2⟩ (by rw [np_149]; rfl) (by rw [np_149]; rfl) (ob_of (mk_2 _)) (Nat.le_of_ble_eq_true rfl) (hold_ev (a := 5) (k := o) (Or.inr (Or.inl rfl)) (by omega)) ?_
  show Bod _ _ _ _ [] _ _ _
  refine Bod.go dc_173_95 rfl ?_
  refine Bod.get dc_173_96 fr_173_11 (mk_16 _) rfl ?_
  refine Bod.go dc_173_99 rfl ?_
  refine Bod.get dc_173_100 fr_173_11 (mk_16 _) rfl ?_
  refine Bod.get dc_173_103 fr_173_92 (mk_2 _) rfl ?_
  refine Bod.go dc_173_106 rfl ?_
  refine Bod.go dc_173_108 rfl ?_
  refine Bod.stat (r := [_, _]) dc_173_110 kr_173_97 (Or.inr rfl) (by rw [np_137]; rfl) (by rw [np_137]; rfl) (by rw [np_137]; exact Nat.le_of_ble_eq_true rfl) (Nat.le_of_ble_eq_true rfl) (objectOf_n (hi := (sL S 21 k)) (lo := (sL S 22 k)) (o := oo) hoo) ?_
  show Bod _ _ _ _ [_, _, _] _ _ _
  refine Bod.virt (r := []) dc_173_113 kr_173_104 ⟨Or.inr rfl, ow_142, cl_2⟩ (by rw [np_142]; rfl) (by rw [np_142]; rfl) (ob_of (mk_2 _)) (Nat.le_of_ble_eq_true rfl) (hR  ) ?_
  show Bod _ _ _ _ [] _ _ _
  exact Bod.retV dc_173_116 rt_173
theorem assign_bu {d : Nat} {S : cS} {k : Nat} {b : Nat} {hi : Int64} {lo : Int64} {o : Nat} {oo : Nat} {S1 : cS} (hk : k < 4096) (hb : sI S 1608 = nI b) (hbM : b ≤ 4096) (hb1 : 1 ≤ b) (h0 : c_kind (sL S 21 k) ≠ 0) (h1 : c_kind hi = 0) (ho : c_obj hi lo = nI o) (ho2 : o ≤ 1500) (hoo : c_obj (sL S 21 k) (sL S 22 k) = nI oo) (hR : Ans (d + 3) 142 [.ref 2, .ref 5, .int (nI oo)] (c_hold 5 o (wL 22 k lo (wL 21 k hi (wI 1608 (nI (b - 1)) S)))) none S1) : Ans (d + 4) 173 [.ref 16, .int (nI k), .long hi, .long lo] S (none) (S1) := by
  refine Ans.of (by rw [ml_173]; exact Nat.le_of_ble_eq_true rfl) ?_
  refine Bod.go dc_173_0 rfl ?_
  refine Bod.go dc_173_1 rfl ?_
  refine Bod.virt (r := []) dc_173_2 kr_173_81 ⟨Or.inl rfl, ow_170, cl_5⟩ (by rw [np_170]; rfl) (by rw [np_170]; rfl) (ob_of (mk_16 _)) (Nat.le_of_ble_eq_true rfl) (known_T (k := k) (by omega)) ?_
  show Bod _ _ _ _ [_] _ _ _
  refine Bod.ifT dc_173_5 rfl (k1_ne_T (k_ne 1 0 rfl rfl (by omega) (by omega) (by omega))) ?_
  refine Bod.go dc_173_9 rfl ?_
  refine Bod.get dc_173_10 fr_173_29 (mk_16 _) rfl ?_
  refine Bod.go dc_173_13 rfl ?_
  refine Bod.laldN k rfl (by omega) (by omega) dc_173_14 (mk_21 _) ?_
  refine Bod.lst dc_173_15 (by rw [ml_173]; exact Nat.le_of_ble_eq_true rfl) ?_
  refine Bod.go dc_173_17 rfl ?_
  refine Bod.get dc_173_18 fr_173_32 (mk_16 _) rfl ?_
  refine Bod.go dc_173_21 rfl ?_
  refine Bod.laldN k rfl (by omega) (by omega) dc_173_22 (mk_22 _) ?_
  refine Bod.lst dc_173_23 (by rw [ml_173]; exact Nat.le_of_ble_eq_true rfl) ?_
  refine Bod.go dc_173_25 rfl ?_
  refine Bod.stat (r := []) dc_173_27 kr_173_88 (Or.inr rfl) (by rw [np_134]; rfl) (by rw [np_134]; rfl) (by rw [np_134]; exact Nat.le_of_ble_eq_true rfl) (Nat.le_of_ble_eq_true rfl) (kindOf_ev (hi := (sL S 21 k)) ) ?_
  show Bod _ _ _ _ [_] _ _ _
  refine Bod.ifF dc_173_30 rfl (k1_eq_F h0) ?_
  refine Bod.go dc_173_33 rfl ?_
  refine Bod.go dc_173_34 rfl ?_
  refine Bod.get dc_173_35 fr_173_85 (mk_16 _) rfl ?_
  refine Bod.eqI (nI b) (by first | assumption | rfl | exact congrArg nI (by omega) | (simp (disch := omega) only [rI, rIe, rA, rIA, rLA, rJA, rVI, rQI, rVA, rQA, upd_at,  rAI, rLI, rJI, nI_add, pk_sub, kc_0, kc_1, kc_2, kc_3, kc_4, kc_5, reduceIte, Nat.reduceEqDiff, Nat.add_zero, rI_hold, rI_hold, rL_hold, hb]; done)) ?_
  refine Bod.ic 1 (by decide) dc_173_38 ?_
  refine Bod.subN (b - 1) (by omega) (by omega) dc_173_39 ?_
  refine Bod.put dc_173_40 fr_173_85 (mk_16 _) (Nat.le_of_ble_eq_true rfl) pf_5_8 (st_1608 _ _) (mu_I _ _ _) ?_
  refine Bod.go dc_173_43 rfl ?_
  refine Bod.stat (r := []) dc_173_44 kr_173_88 (Or.inr rfl) (by rw [np_134]; rfl) (by rw [np_134]; rfl) (by rw [np_134]; exact Nat.le_of_ble_eq_true rfl) (Nat.le_of_ble_eq_true rfl) (kindOf_ev (hi := hi) ) ?_
  show Bod _ _ _ _ [_] _ _ _
  refine Bod.ifT dc_173_47 rfl (k1_eq_T h1) ?_
  refine Bod.go dc_173_60 rfl ?_
  refine Bod.get dc_173_61 fr_173_29 (mk_16 _) rfl ?_
  refine Bod.go dc_173_64 rfl ?_
  refine Bod.go dc_173_65 rfl ?_
  refine Bod.lastN k rfl (by omega) (by omega) dc_173_66 (mk_21 _) (sa_21 _ _ _) (mu_L _ _ _ _) ?_
  refine Bod.go dc_173_67 rfl ?_
  refine Bod.get dc_173_68 fr_173_32 (mk_16 _) rfl ?_
  refine Bod.go dc_173_71 rfl ?_
  refine Bod.go dc_173_72 rfl ?_
  refine Bod.lastN k rfl (by omega) (by omega) dc_173_74 (mk_22 _) (sa_22 _ _ _) (mu_L _ _ _ _) ?_
  refine Bod.go dc_173_75 rfl ?_
  refine Bod.get dc_173_76 fr_173_11 (mk_16 _) rfl ?_
  refine Bod.go dc_173_79 rfl ?_
  refine Bod.get dc_173_80 fr_173_11 (mk_16 _) rfl ?_
  refine Bod.get dc_173_83 fr_173_92 (mk_2 _) rfl ?_
  refine Bod.go dc_173_86 rfl ?_
  refine Bod.go dc_173_87 rfl ?_
  refine Bod.stat (r := [_, _]) dc_173_89 kr_173_97 (Or.inr rfl) (by rw [np_137]; rfl) (by rw [np_137]; rfl) (by rw [np_137]; exact Nat.le_of_ble_eq_true rfl) (Nat.le_of_ble_eq_true rfl) (objectOf_n (hi := hi) (lo := lo) (o := o) ho) ?_
  show Bod _ _ _ _ [_, _, _] _ _ _
  refine Bod.virt (r := []) dc_173_92 kr_173_100 ⟨Or.inr rfl, ow_149, cl_2⟩ (by rw [np_149]; rfl) (by rw [np_149]; rfl) (ob_of (mk_2 _)) (Nat.le_of_ble_eq_true rfl) (hold_ev (a := 5) (k := o) (Or.inr (Or.inl rfl)) (by omega)) ?_
  show Bod _ _ _ _ [] _ _ _
  refine Bod.go dc_173_95 rfl ?_
  refine Bod.get dc_173_96 fr_173_11 (mk_16 _) rfl ?_
  refine Bod.go dc_173_99 rfl ?_
  refine Bod.get dc_173_100 fr_173_11 (mk_16 _) rfl ?_
  refine Bod.get dc_173_103 fr_173_92 (mk_2 _) rfl ?_
  refine Bod.go dc_173_106 rfl ?_
  refine Bod.go dc_173_108 rfl ?_
  refine Bod.stat (r := [_, _]) dc_173_110 kr_173_97 (Or.inr rfl) (by rw [np_137]; rfl) (by rw [np_137]; rfl) (by rw [np_137]; exact Nat.le_of_ble_eq_true rfl) (Nat.le_of_ble_eq_true rfl) (objectOf_n (hi := (sL S 21 k)) (lo := (sL S 22 k)) (o := oo) hoo) ?_
  show Bod _ _ _ _ [_, _, _] _ _ _
  refine Bod.virt (r := []) dc_173_113 kr_173_104 ⟨Or.inr rfl, ow_142, cl_2⟩ (by rw [np_142]; rfl) (by rw [np_142]; rfl) (ob_of (mk_2 _)) (Nat.le_of_ble_eq_true rfl) (hR  ) ?_
  show Bod _ _ _ _ [] _ _ _
  exact Bod.retV dc_173_116 rt_173
theorem assign_bb {d : Nat} {S : cS} {k : Nat} {b : Nat} {hi : Int64} {lo : Int64} {o : Nat} {oo : Nat} {S1 : cS} (hk : k < 4096) (hb : sI S 1608 = nI b) (hbM : b ≤ 4096) (hb1 : 1 ≤ b) (h0 : c_kind (sL S 21 k) ≠ 0) (h1 : c_kind hi ≠ 0) (ho : c_obj hi lo = nI o) (ho2 : o ≤ 1500) (hoo : c_obj (sL S 21 k) (sL S 22 k) = nI oo) (hR : Ans (d + 3) 142 [.ref 2, .ref 5, .int (nI oo)] (c_hold 5 o (wL 22 k lo (wL 21 k hi (wI 1608 (nI b) (wI 1608 (nI (b - 1)) S))))) none S1) : Ans (d + 4) 173 [.ref 16, .int (nI k), .long hi, .long lo] S (none) (S1) := by
  refine Ans.of (by rw [ml_173]; exact Nat.le_of_ble_eq_true rfl) ?_
  refine Bod.go dc_173_0 rfl ?_
  refine Bod.go dc_173_1 rfl ?_
  refine Bod.virt (r := []) dc_173_2 kr_173_81 ⟨Or.inl rfl, ow_170, cl_5⟩ (by rw [np_170]; rfl) (by rw [np_170]; rfl) (ob_of (mk_16 _)) (Nat.le_of_ble_eq_true rfl) (known_T (k := k) (by omega)) ?_
  show Bod _ _ _ _ [_] _ _ _
  refine Bod.ifT dc_173_5 rfl (k1_ne_T (k_ne 1 0 rfl rfl (by omega) (by omega) (by omega))) ?_
  refine Bod.go dc_173_9 rfl ?_
  refine Bod.get dc_173_10 fr_173_29 (mk_16 _) rfl ?_
  refine Bod.go dc_173_13 rfl ?_
  refine Bod.laldN k rfl (by omega) (by omega) dc_173_14 (mk_21 _) ?_
  refine Bod.lst dc_173_15 (by rw [ml_173]; exact Nat.le_of_ble_eq_true rfl) ?_
  refine Bod.go dc_173_17 rfl ?_
  refine Bod.get dc_173_18 fr_173_32 (mk_16 _) rfl ?_
  refine Bod.go dc_173_21 rfl ?_
  refine Bod.laldN k rfl (by omega) (by omega) dc_173_22 (mk_22 _) ?_
  refine Bod.lst dc_173_23 (by rw [ml_173]; exact Nat.le_of_ble_eq_true rfl) ?_
  refine Bod.go dc_173_25 rfl ?_
  refine Bod.stat (r := []) dc_173_27 kr_173_88 (Or.inr rfl) (by rw [np_134]; rfl) (by rw [np_134]; rfl) (by rw [np_134]; exact Nat.le_of_ble_eq_true rfl) (Nat.le_of_ble_eq_true rfl) (kindOf_ev (hi := (sL S 21 k)) ) ?_
  show Bod _ _ _ _ [_] _ _ _
  refine Bod.ifF dc_173_30 rfl (k1_eq_F h0) ?_
  refine Bod.go dc_173_33 rfl ?_
  refine Bod.go dc_173_34 rfl ?_
  refine Bod.get dc_173_35 fr_173_85 (mk_16 _) rfl ?_
  refine Bod.eqI (nI b) (by first | assumption | rfl | exact congrArg nI (by omega) | (simp (disch := omega) only [rI, rIe, rA, rIA, rLA, rJA, rVI, rQI, rVA, rQA, upd_at,  rAI, rLI, rJI, nI_add, pk_sub, kc_0, kc_1, kc_2, kc_3, kc_4, kc_5, reduceIte, Nat.reduceEqDiff, Nat.add_zero, rI_hold, rI_hold, rL_hold, hb]; done)) ?_
  refine Bod.ic 1 (by decide) dc_173_38 ?_
  refine Bod.subN (b - 1) (by omega) (by omega) dc_173_39 ?_
  refine Bod.put dc_173_40 fr_173_85 (mk_16 _) (Nat.le_of_ble_eq_true rfl) pf_5_8 (st_1608 _ _) (mu_I _ _ _) ?_
  refine Bod.go dc_173_43 rfl ?_
  refine Bod.stat (r := []) dc_173_44 kr_173_88 (Or.inr rfl) (by rw [np_134]; rfl) (by rw [np_134]; rfl) (by rw [np_134]; exact Nat.le_of_ble_eq_true rfl) (Nat.le_of_ble_eq_true rfl) (kindOf_ev (hi := hi) ) ?_
  show Bod _ _ _ _ [_] _ _ _
  refine Bod.ifF dc_173_47 rfl (k1_eq_F h1) ?_
  refine Bod.go dc_173_50 rfl ?_
  refine Bod.go dc_173_51 rfl ?_
  refine Bod.get dc_173_52 fr_173_85 (mk_16 _) rfl ?_
  refine Bod.eqI (nI (b - 1)) (by first | (simp (disch := omega) only [rI, rIe, rA, rIA, rLA, rJA, rVI, rQI, rVA, rQA, upd_at,  rAI, rLI, rJI, nI_add, pk_sub, kc_0, kc_1, kc_2, kc_3, kc_4, kc_5, reduceIte, Nat.reduceEqDiff, Nat.add_zero, rI_hold, rI_hold, rL_hold, hb]; done) | (simp (disch := omega) only [rI, rIe, rA, rIA, rLA, rJA, rVI, rQI, rVA, rQA, upd_at,  rAI, rLI, rJI, nI_add, pk_sub, kc_0, kc_1, kc_2, kc_3, kc_4, kc_5, reduceIte, Nat.reduceEqDiff, Nat.add_zero, rI_hold, rI_hold, rL_hold, hb]; exact congrArg nI (by omega))) ?_
  refine Bod.ic 1 (by decide) dc_173_55 ?_
  refine Bod.addN b (by omega) dc_173_56 ?_
  refine Bod.put dc_173_57 fr_173_85 (mk_16 _) (Nat.le_of_ble_eq_true rfl) pf_5_8 (st_1608 _ _) (mu_I _ _ _) ?_
  refine Bod.go dc_173_60 rfl ?_
  refine Bod.get dc_173_61 fr_173_29 (mk_16 _) rfl ?_
  refine Bod.go dc_173_64 rfl ?_
  refine Bod.go dc_173_65 rfl ?_
  refine Bod.lastN k rfl (by omega) (by omega) dc_173_66 (mk_21 _) (sa_21 _ _ _) (mu_L _ _ _ _) ?_
  refine Bod.go dc_173_67 rfl ?_
  refine Bod.get dc_173_68 fr_173_32 (mk_16 _) rfl ?_
  refine Bod.go dc_173_71 rfl ?_
  refine Bod.go dc_173_72 rfl ?_
  refine Bod.lastN k rfl (by omega) (by omega) dc_173_74 (mk_22 _) (sa_22 _ _ _) (mu_L _ _ _ _) ?_
  refine Bod.go dc_173_75 rfl ?_
  refine Bod.get dc_173_76 fr_173_11 (mk_16 _) rfl ?_
  refine Bod.go dc_173_79 rfl ?_
  refine Bod.get dc_173_80 fr_173_11 (mk_16 _) rfl ?_
  refine Bod.get dc_173_83 fr_173_92 (mk_2 _) rfl ?_
  refine Bod.go dc_173_86 rfl ?_
  refine Bod.go dc_173_87 rfl ?_
  refine Bod.stat (r := [_, _]) dc_173_89 kr_173_97 (Or.inr rfl) (by rw [np_137]; rfl) (by rw [np_137]; rfl) (by rw [np_137]; exact Nat.le_of_ble_eq_true rfl) (Nat.le_of_ble_eq_true rfl) (objectOf_n (hi := hi) (lo := lo) (o := o) ho) ?_
  show Bod _ _ _ _ [_, _, _] _ _ _
  refine Bod.virt (r := []) dc_173_92 kr_173_100 ⟨Or.inr rfl, ow_149, cl_2⟩ (by rw [np_149]; rfl) (by rw [np_149]; rfl) (ob_of (mk_2 _)) (Nat.le_of_ble_eq_true rfl) (hold_ev (a := 5) (k := o) (Or.inr (Or.inl rfl)) (by omega)) ?_
  show Bod _ _ _ _ [] _ _ _
  refine Bod.go dc_173_95 rfl ?_
  refine Bod.get dc_173_96 fr_173_11 (mk_16 _) rfl ?_
  refine Bod.go dc_173_99 rfl ?_
  refine Bod.get dc_173_100 fr_173_11 (mk_16 _) rfl ?_
  refine Bod.get dc_173_103 fr_173_92 (mk_2 _) rfl ?_
  refine Bod.go dc_173_106 rfl ?_
  refine Bod.go dc_173_108 rfl ?_
  refine Bod.stat (r := [_, _]) dc_173_110 kr_173_97 (Or.inr rfl) (by rw [np_137]; rfl) (by rw [np_137]; rfl) (by rw [np_137]; exact Nat.le_of_ble_eq_true rfl) (Nat.le_of_ble_eq_true rfl) (objectOf_n (hi := (sL S 21 k)) (lo := (sL S 22 k)) (o := oo) hoo) ?_
  show Bod _ _ _ _ [_, _, _] _ _ _
  refine Bod.virt (r := []) dc_173_113 kr_173_104 ⟨Or.inr rfl, ow_142, cl_2⟩ (by rw [np_142]; rfl) (by rw [np_142]; rfl) (ob_of (mk_2 _)) (Nat.le_of_ble_eq_true rfl) (hR  ) ?_
  show Bod _ _ _ _ [] _ _ _
  exact Bod.retV dc_173_116 rt_173
theorem bind_c {d : Nat} {S : cS} {q : Nat} {v : Int64} {S1 : cS} {S2 : cS} (hT : Ans (d + 5) 278 [.ref 0] S (some (.int (nI q))) S1) (hq : q < 4096) (hA : Ans (d + 5) 173 [.ref 16, .int (nI q), .long 2305843009213693952, .long v] S1 none S2) : Ans (d + 6) 277 [.ref 0, .long v] S (some (.int (nI 0))) (S2) := by
  refine Ans.of (by rw [ml_277]; exact Nat.le_of_ble_eq_true rfl) ?_
  refine Bod.go dc_277_0 rfl ?_
  refine Bod.virt (r := []) dc_277_1 kr_277_139 ⟨Or.inl rfl, ow_278, cl_11⟩ (by rw [np_278]; rfl) (by rw [np_278]; rfl) (ob_of (mk_0 _)) (Nat.le_of_ble_eq_true rfl) (hT  ) ?_
  show Bod _ _ _ _ [_] _ _ _
  refine Bod.istn dc_277_4 (by rw [ml_277]; exact Nat.le_of_ble_eq_true rfl) ?_
  refine Bod.go dc_277_5 rfl ?_
  refine Bod.ifT dc_277_6 rfl (k1_ge_T q rfl (by omega)) ?_
  refine Bod.go dc_277_11 rfl ?_
  refine Bod.get dc_277_12 fr_277_25 (mk_0 _) rfl ?_
  refine Bod.go dc_277_15 rfl ?_
  refine Bod.ldc2 dc_277_16 cj_277_142 ?_
  refine Bod.go dc_277_19 rfl ?_
  refine Bod.virt (r := []) dc_277_20 kr_277_144 ⟨Or.inr rfl, ow_173, cl_5⟩ (by rw [np_173]; rfl) (by rw [np_173]; rfl) (ob_of (mk_16 _)) (Nat.le_of_ble_eq_true rfl) (hA  ) ?_
  show Bod _ _ _ _ [] _ _ _
  refine Bod.ic 0 (by decide) dc_277_23 ?_
  exact Bod.retI dc_277_24 rt_277
