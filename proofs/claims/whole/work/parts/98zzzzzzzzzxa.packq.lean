/-! DEEDS ON BOTH SIDES: a text out of the reference's bytes -/
theorem pq_end {d fr M hf k : Nat} {w : Int64} {S : cS} {lv : sm_L} (hfr : fr + M ≤ 40) (hM : M ≤ 15) (hhf : hf ≤ 1) (h0 : sm_get lv 0 = some (.ref 104)) (h1 : sm_get lv 1 = some (.int (nI fr))) (h2 : sm_get lv 2 = some (.int (nI M))) (h3 : sm_get lv 3 = some (.int (nI hf))) (h4 : sm_get lv 4 = some (.long w)) (h6 : sm_get lv 6 = some (.int (nI k))) (hk : k = 8) : Bod d 297 6 lv [] S (some (.long w)) S := by
  refine Bod.ildG dc_297_6 (by repeat (first | exact h6 | exact sm_get_p1 | exact sm_get_p2e | refine sm_get_p1m (by decide) (by decide) ?_ | refine sm_get_p1n (by decide) rfl ?_ | refine sm_get_p2n (by decide) (by decide) rfl ?_)) ?_
  refine Bod.bip 8 (by decide) dc_297_8 ?_
  refine Bod.icT dc_297_10 rfl (k2_ge_T k 8 rfl rfl (by omega) (by omega)) ?_
  refine Bod.lldG dc_297_73 (by repeat (first | exact h4 | exact sm_get_p1 | exact sm_get_p2e | refine sm_get_p1m (by decide) (by decide) ?_ | refine sm_get_p1n (by decide) rfl ?_ | refine sm_get_p2n (by decide) (by decide) rfl ?_)) ?_
  exact Bod.retJ dc_297_75 rt_297
theorem pq_many {d fr M hf k : Nat} {w : Int64} {S Sf : cS} {lv : sm_L} {v : Option Value} {x : Nat} (hfr : fr + M ≤ 40) (hM : M ≤ 15) (hhf : hf ≤ 1) (h0 : sm_get lv 0 = some (.ref 104)) (h1 : sm_get lv 1 = some (.int (nI fr))) (h2 : sm_get lv 2 = some (.int (nI M))) (h3 : sm_get lv 3 = some (.int (nI hf))) (h4 : sm_get lv 4 = some (.long w)) (h6 : sm_get lv 6 = some (.int (nI k))) (hk : k < 8) (h7 : k = 7) (hh : hf = 1) (hB : ∀ lv1 : sm_L, sm_get lv1 0 = some (.ref 104) → sm_get lv1 1 = some (.int (nI fr)) → sm_get lv1 2 = some (.int (nI M)) → sm_get lv1 3 = some (.int (nI hf)) → sm_get lv1 4 = some (.long ((w <<< ((nI 8).toInt64 &&& 63)) ||| (nI M).toInt64)) → sm_get lv1 6 = some (.int (nI (k + 1))) → Bod d 297 6 lv1 [] S v Sf) : Bod d 297 6 lv [] S v Sf := by
  refine Bod.ildG dc_297_6 (by repeat (first | exact h6 | exact sm_get_p1 | exact sm_get_p2e | refine sm_get_p1m (by decide) (by decide) ?_ | refine sm_get_p1n (by decide) rfl ?_ | refine sm_get_p2n (by decide) (by decide) rfl ?_)) ?_
  refine Bod.bip 8 (by decide) dc_297_8 ?_
  refine Bod.icF dc_297_10 rfl (k2_ge_F k 8 rfl rfl (by omega) (by omega)) ?_
  refine Bod.bip 8 (by decide) dc_297_13 ?_
  refine Bod.ildnG dc_297_15 (by repeat (first | exact h3 | exact sm_get_p1 | exact sm_get_p2e | refine sm_get_p1m (by decide) (by decide) ?_ | refine sm_get_p1n (by decide) rfl ?_ | refine sm_get_p2n (by decide) (by decide) rfl ?_)) ?_
  refine Bod.mulN (8 * hf) (by omega) dc_297_16 ?_
  refine Bod.ildG dc_297_17 (by repeat (first | exact h6 | exact sm_get_p1 | exact sm_get_p2e | refine sm_get_p1m (by decide) (by decide) ?_ | refine sm_get_p1n (by decide) rfl ?_ | refine sm_get_p2n (by decide) (by decide) rfl ?_)) ?_
  refine Bod.addN (8 * hf + k) (by omega) dc_297_19 ?_
  refine Bod.ist dc_297_20 (by rw [ml_297]; exact Nat.le_of_ble_eq_true rfl) ?_
  refine Bod.lldG dc_297_22 (by repeat (first | exact h4 | exact sm_get_p1 | exact sm_get_p2e | refine sm_get_p1m (by decide) (by decide) ?_ | refine sm_get_p1n (by decide) rfl ?_ | refine sm_get_p2n (by decide) (by decide) rfl ?_)) ?_
  refine Bod.bip 8 (by decide) dc_297_24 ?_
  refine Bod.go dc_297_26 rfl ?_
  refine Bod.ildnG dc_297_27 (by repeat (first | exact h3 | exact sm_get_p1 | exact sm_get_p2e | refine sm_get_p1m (by decide) (by decide) ?_ | refine sm_get_p1n (by decide) rfl ?_ | refine sm_get_p2n (by decide) (by decide) rfl ?_)) ?_
  refine Bod.ic 1 (by decide) dc_297_28 ?_
  refine Bod.icF dc_297_29 rfl (k2_ne_F (k_eq hf 1 rfl rfl (by omega))) ?_
  refine Bod.ildG dc_297_32 (by repeat (first | exact h6 | exact sm_get_p1 | exact sm_get_p2e | refine sm_get_p1m (by decide) (by decide) ?_ | refine sm_get_p1n (by decide) rfl ?_ | refine sm_get_p2n (by decide) (by decide) rfl ?_)) ?_
  refine Bod.bip 7 (by decide) dc_297_34 ?_
  refine Bod.icF dc_297_36 rfl (k2_ne_F (k_eq k 7 rfl rfl (by omega))) ?_
  refine Bod.ildnG dc_297_39 (by repeat (first | exact h2 | exact sm_get_p1 | exact sm_get_p2e | refine sm_get_p1m (by decide) (by decide) ?_ | refine sm_get_p1n (by decide) rfl ?_ | refine sm_get_p2n (by decide) (by decide) rfl ?_)) ?_
  refine Bod.go dc_297_40 rfl ?_
  refine Bod.go dc_297_63 rfl ?_
  refine Bod.go dc_297_64 rfl ?_
  refine Bod.lst dc_297_65 (by rw [ml_297]; exact Nat.le_of_ble_eq_true rfl) ?_
  refine Bod.incN (k + 1) (by rw [kc_1, nI_add]) dc_297_67 (by rw [ml_297]; exact Nat.le_of_ble_eq_true rfl) (by repeat (first | exact h6 | exact sm_get_p1 | exact sm_get_p2e | refine sm_get_p1m (by decide) (by decide) ?_ | refine sm_get_p1n (by decide) rfl ?_ | refine sm_get_p2n (by decide) (by decide) rfl ?_)) ?_
  refine Bod.go dc_297_70 rfl ?_
  exact hB _ (by repeat (first | exact h0 | exact sm_get_p1 | exact sm_get_p2e | refine sm_get_p1m (by decide) (by decide) ?_ | refine sm_get_p1n (by decide) rfl ?_ | refine sm_get_p2n (by decide) (by decide) rfl ?_)) (by repeat (first | exact h1 | exact sm_get_p1 | exact sm_get_p2e | refine sm_get_p1m (by decide) (by decide) ?_ | refine sm_get_p1n (by decide) rfl ?_ | refine sm_get_p2n (by decide) (by decide) rfl ?_)) (by repeat (first | exact h2 | exact sm_get_p1 | exact sm_get_p2e | refine sm_get_p1m (by decide) (by decide) ?_ | refine sm_get_p1n (by decide) rfl ?_ | refine sm_get_p2n (by decide) (by decide) rfl ?_)) (by repeat (first | exact h3 | exact sm_get_p1 | exact sm_get_p2e | refine sm_get_p1m (by decide) (by decide) ?_ | refine sm_get_p1n (by decide) rfl ?_ | refine sm_get_p2n (by decide) (by decide) rfl ?_)) (by repeat (first | exact h4 | exact sm_get_p1 | exact sm_get_p2e | refine sm_get_p1m (by decide) (by decide) ?_ | refine sm_get_p1n (by decide) rfl ?_ | refine sm_get_p2n (by decide) (by decide) rfl ?_)) (by repeat (first | exact h6 | exact sm_get_p1 | exact sm_get_p2e | refine sm_get_p1m (by decide) (by decide) ?_ | refine sm_get_p1n (by decide) rfl ?_ | refine sm_get_p2n (by decide) (by decide) rfl ?_))
theorem pq_in0 {d fr M hf k : Nat} {w : Int64} {S Sf : cS} {lv : sm_L} {v : Option Value} {x : Nat} (hfr : fr + M ≤ 40) (hM : M ≤ 15) (hhf : hf ≤ 1) (h0 : sm_get lv 0 = some (.ref 104)) (h1 : sm_get lv 1 = some (.int (nI fr))) (h2 : sm_get lv 2 = some (.int (nI M))) (h3 : sm_get lv 3 = some (.int (nI hf))) (h4 : sm_get lv 4 = some (.long w)) (h6 : sm_get lv 6 = some (.int (nI k))) (hk : k < 8) (hh : hf ≠ 1) (hi : 8 * hf + k < M) (hB : ∀ lv1 : sm_L, sm_get lv1 0 = some (.ref 104) → sm_get lv1 1 = some (.int (nI fr)) → sm_get lv1 2 = some (.int (nI M)) → sm_get lv1 3 = some (.int (nI hf)) → sm_get lv1 4 = some (.long ((w <<< ((nI 8).toInt64 &&& 63)) ||| (sA S 104 (fr + 8 * hf + k) &&& nI 255).toInt64)) → sm_get lv1 6 = some (.int (nI (k + 1))) → Bod d 297 6 lv1 [] S v Sf) : Bod d 297 6 lv [] S v Sf := by
  refine Bod.ildG dc_297_6 (by repeat (first | exact h6 | exact sm_get_p1 | exact sm_get_p2e | refine sm_get_p1m (by decide) (by decide) ?_ | refine sm_get_p1n (by decide) rfl ?_ | refine sm_get_p2n (by decide) (by decide) rfl ?_)) ?_
  refine Bod.bip 8 (by decide) dc_297_8 ?_
  refine Bod.icF dc_297_10 rfl (k2_ge_F k 8 rfl rfl (by omega) (by omega)) ?_
  refine Bod.bip 8 (by decide) dc_297_13 ?_
  refine Bod.ildnG dc_297_15 (by repeat (first | exact h3 | exact sm_get_p1 | exact sm_get_p2e | refine sm_get_p1m (by decide) (by decide) ?_ | refine sm_get_p1n (by decide) rfl ?_ | refine sm_get_p2n (by decide) (by decide) rfl ?_)) ?_
  refine Bod.mulN (8 * hf) (by omega) dc_297_16 ?_
  refine Bod.ildG dc_297_17 (by repeat (first | exact h6 | exact sm_get_p1 | exact sm_get_p2e | refine sm_get_p1m (by decide) (by decide) ?_ | refine sm_get_p1n (by decide) rfl ?_ | refine sm_get_p2n (by decide) (by decide) rfl ?_)) ?_
  refine Bod.addN (8 * hf + k) (by omega) dc_297_19 ?_
  refine Bod.ist dc_297_20 (by rw [ml_297]; exact Nat.le_of_ble_eq_true rfl) ?_
  refine Bod.lldG dc_297_22 (by repeat (first | exact h4 | exact sm_get_p1 | exact sm_get_p2e | refine sm_get_p1m (by decide) (by decide) ?_ | refine sm_get_p1n (by decide) rfl ?_ | refine sm_get_p2n (by decide) (by decide) rfl ?_)) ?_
  refine Bod.bip 8 (by decide) dc_297_24 ?_
  refine Bod.go dc_297_26 rfl ?_
  refine Bod.ildnG dc_297_27 (by repeat (first | exact h3 | exact sm_get_p1 | exact sm_get_p2e | refine sm_get_p1m (by decide) (by decide) ?_ | refine sm_get_p1n (by decide) rfl ?_ | refine sm_get_p2n (by decide) (by decide) rfl ?_)) ?_
  refine Bod.ic 1 (by decide) dc_297_28 ?_
  refine Bod.icT dc_297_29 rfl (k2_ne_T (k_ne hf 1 rfl rfl (by omega) (by omega) (by omega))) ?_
  refine Bod.go dc_297_43 rfl ?_
  refine Bod.ildnG dc_297_45 (by repeat (first | exact h2 | exact sm_get_p1 | exact sm_get_p2e | refine sm_get_p1m (by decide) (by decide) ?_ | refine sm_get_p1n (by decide) rfl ?_ | refine sm_get_p2n (by decide) (by decide) rfl ?_)) ?_
  refine Bod.icF dc_297_46 rfl (k2_ge_F (8 * hf + k) M rfl rfl (by omega) (by omega)) ?_
  refine Bod.aldnG dc_297_49 (by repeat (first | exact h0 | exact sm_get_p1 | exact sm_get_p2e | refine sm_get_p1m (by decide) (by decide) ?_ | refine sm_get_p1n (by decide) rfl ?_ | refine sm_get_p2n (by decide) (by decide) rfl ?_)) ?_
  refine Bod.ildnG dc_297_50 (by repeat (first | exact h1 | exact sm_get_p1 | exact sm_get_p2e | refine sm_get_p1m (by decide) (by decide) ?_ | refine sm_get_p1n (by decide) rfl ?_ | refine sm_get_p2n (by decide) (by decide) rfl ?_)) ?_
  refine Bod.go dc_297_51 rfl ?_
  refine Bod.addN (fr + 8 * hf + k) (by omega) dc_297_53 ?_
  refine Bod.baldN (fr + 8 * hf + k) rfl (by omega) (by omega) dc_297_54 (mk_104 _) (Or.inl rfl) ?_
  refine Bod.sip 255 (by decide) dc_297_55 ?_
  refine Bod.go dc_297_58 rfl ?_
  refine Bod.go dc_297_59 rfl ?_
  refine Bod.go dc_297_63 rfl ?_
  refine Bod.go dc_297_64 rfl ?_
  refine Bod.lst dc_297_65 (by rw [ml_297]; exact Nat.le_of_ble_eq_true rfl) ?_
  refine Bod.incN (k + 1) (by rw [kc_1, nI_add]) dc_297_67 (by rw [ml_297]; exact Nat.le_of_ble_eq_true rfl) (by repeat (first | exact h6 | exact sm_get_p1 | exact sm_get_p2e | refine sm_get_p1m (by decide) (by decide) ?_ | refine sm_get_p1n (by decide) rfl ?_ | refine sm_get_p2n (by decide) (by decide) rfl ?_)) ?_
  refine Bod.go dc_297_70 rfl ?_
  exact hB _ (by repeat (first | exact h0 | exact sm_get_p1 | exact sm_get_p2e | refine sm_get_p1m (by decide) (by decide) ?_ | refine sm_get_p1n (by decide) rfl ?_ | refine sm_get_p2n (by decide) (by decide) rfl ?_)) (by repeat (first | exact h1 | exact sm_get_p1 | exact sm_get_p2e | refine sm_get_p1m (by decide) (by decide) ?_ | refine sm_get_p1n (by decide) rfl ?_ | refine sm_get_p2n (by decide) (by decide) rfl ?_)) (by repeat (first | exact h2 | exact sm_get_p1 | exact sm_get_p2e | refine sm_get_p1m (by decide) (by decide) ?_ | refine sm_get_p1n (by decide) rfl ?_ | refine sm_get_p2n (by decide) (by decide) rfl ?_)) (by repeat (first | exact h3 | exact sm_get_p1 | exact sm_get_p2e | refine sm_get_p1m (by decide) (by decide) ?_ | refine sm_get_p1n (by decide) rfl ?_ | refine sm_get_p2n (by decide) (by decide) rfl ?_)) (by repeat (first | exact h4 | exact sm_get_p1 | exact sm_get_p2e | refine sm_get_p1m (by decide) (by decide) ?_ | refine sm_get_p1n (by decide) rfl ?_ | refine sm_get_p2n (by decide) (by decide) rfl ?_)) (by repeat (first | exact h6 | exact sm_get_p1 | exact sm_get_p2e | refine sm_get_p1m (by decide) (by decide) ?_ | refine sm_get_p1n (by decide) rfl ?_ | refine sm_get_p2n (by decide) (by decide) rfl ?_))
theorem pq_in1 {d fr M hf k : Nat} {w : Int64} {S Sf : cS} {lv : sm_L} {v : Option Value} {x : Nat} (hfr : fr + M ≤ 40) (hM : M ≤ 15) (hhf : hf ≤ 1) (h0 : sm_get lv 0 = some (.ref 104)) (h1 : sm_get lv 1 = some (.int (nI fr))) (h2 : sm_get lv 2 = some (.int (nI M))) (h3 : sm_get lv 3 = some (.int (nI hf))) (h4 : sm_get lv 4 = some (.long w)) (h6 : sm_get lv 6 = some (.int (nI k))) (hk : k < 8) (hh : hf = 1) (h7 : k ≠ 7) (hi : 8 * hf + k < M) (hB : ∀ lv1 : sm_L, sm_get lv1 0 = some (.ref 104) → sm_get lv1 1 = some (.int (nI fr)) → sm_get lv1 2 = some (.int (nI M)) → sm_get lv1 3 = some (.int (nI hf)) → sm_get lv1 4 = some (.long ((w <<< ((nI 8).toInt64 &&& 63)) ||| (sA S 104 (fr + 8 * hf + k) &&& nI 255).toInt64)) → sm_get lv1 6 = some (.int (nI (k + 1))) → Bod d 297 6 lv1 [] S v Sf) : Bod d 297 6 lv [] S v Sf := by
  refine Bod.ildG dc_297_6 (by repeat (first | exact h6 | exact sm_get_p1 | exact sm_get_p2e | refine sm_get_p1m (by decide) (by decide) ?_ | refine sm_get_p1n (by decide) rfl ?_ | refine sm_get_p2n (by decide) (by decide) rfl ?_)) ?_
  refine Bod.bip 8 (by decide) dc_297_8 ?_
  refine Bod.icF dc_297_10 rfl (k2_ge_F k 8 rfl rfl (by omega) (by omega)) ?_
  refine Bod.bip 8 (by decide) dc_297_13 ?_
  refine Bod.ildnG dc_297_15 (by repeat (first | exact h3 | exact sm_get_p1 | exact sm_get_p2e | refine sm_get_p1m (by decide) (by decide) ?_ | refine sm_get_p1n (by decide) rfl ?_ | refine sm_get_p2n (by decide) (by decide) rfl ?_)) ?_
  refine Bod.mulN (8 * hf) (by omega) dc_297_16 ?_
  refine Bod.ildG dc_297_17 (by repeat (first | exact h6 | exact sm_get_p1 | exact sm_get_p2e | refine sm_get_p1m (by decide) (by decide) ?_ | refine sm_get_p1n (by decide) rfl ?_ | refine sm_get_p2n (by decide) (by decide) rfl ?_)) ?_
  refine Bod.addN (8 * hf + k) (by omega) dc_297_19 ?_
  refine Bod.ist dc_297_20 (by rw [ml_297]; exact Nat.le_of_ble_eq_true rfl) ?_
  refine Bod.lldG dc_297_22 (by repeat (first | exact h4 | exact sm_get_p1 | exact sm_get_p2e | refine sm_get_p1m (by decide) (by decide) ?_ | refine sm_get_p1n (by decide) rfl ?_ | refine sm_get_p2n (by decide) (by decide) rfl ?_)) ?_
  refine Bod.bip 8 (by decide) dc_297_24 ?_
  refine Bod.go dc_297_26 rfl ?_
  refine Bod.ildnG dc_297_27 (by repeat (first | exact h3 | exact sm_get_p1 | exact sm_get_p2e | refine sm_get_p1m (by decide) (by decide) ?_ | refine sm_get_p1n (by decide) rfl ?_ | refine sm_get_p2n (by decide) (by decide) rfl ?_)) ?_
  refine Bod.ic 1 (by decide) dc_297_28 ?_
  refine Bod.icF dc_297_29 rfl (k2_ne_F (k_eq hf 1 rfl rfl (by omega))) ?_
  refine Bod.ildG dc_297_32 (by repeat (first | exact h6 | exact sm_get_p1 | exact sm_get_p2e | refine sm_get_p1m (by decide) (by decide) ?_ | refine sm_get_p1n (by decide) rfl ?_ | refine sm_get_p2n (by decide) (by decide) rfl ?_)) ?_
  refine Bod.bip 7 (by decide) dc_297_34 ?_
  refine Bod.icT dc_297_36 rfl (k2_ne_T (k_ne k 7 rfl rfl (by omega) (by omega) (by omega))) ?_
  refine Bod.go dc_297_43 rfl ?_
  refine Bod.ildnG dc_297_45 (by repeat (first | exact h2 | exact sm_get_p1 | exact sm_get_p2e | refine sm_get_p1m (by decide) (by decide) ?_ | refine sm_get_p1n (by decide) rfl ?_ | refine sm_get_p2n (by decide) (by decide) rfl ?_)) ?_
  refine Bod.icF dc_297_46 rfl (k2_ge_F (8 * hf + k) M rfl rfl (by omega) (by omega)) ?_
  refine Bod.aldnG dc_297_49 (by repeat (first | exact h0 | exact sm_get_p1 | exact sm_get_p2e | refine sm_get_p1m (by decide) (by decide) ?_ | refine sm_get_p1n (by decide) rfl ?_ | refine sm_get_p2n (by decide) (by decide) rfl ?_)) ?_
  refine Bod.ildnG dc_297_50 (by repeat (first | exact h1 | exact sm_get_p1 | exact sm_get_p2e | refine sm_get_p1m (by decide) (by decide) ?_ | refine sm_get_p1n (by decide) rfl ?_ | refine sm_get_p2n (by decide) (by decide) rfl ?_)) ?_
  refine Bod.go dc_297_51 rfl ?_
  refine Bod.addN (fr + 8 * hf + k) (by omega) dc_297_53 ?_
  refine Bod.baldN (fr + 8 * hf + k) rfl (by omega) (by omega) dc_297_54 (mk_104 _) (Or.inl rfl) ?_
  refine Bod.sip 255 (by decide) dc_297_55 ?_
  refine Bod.go dc_297_58 rfl ?_
  refine Bod.go dc_297_59 rfl ?_
  refine Bod.go dc_297_63 rfl ?_
  refine Bod.go dc_297_64 rfl ?_
  refine Bod.lst dc_297_65 (by rw [ml_297]; exact Nat.le_of_ble_eq_true rfl) ?_
  refine Bod.incN (k + 1) (by rw [kc_1, nI_add]) dc_297_67 (by rw [ml_297]; exact Nat.le_of_ble_eq_true rfl) (by repeat (first | exact h6 | exact sm_get_p1 | exact sm_get_p2e | refine sm_get_p1m (by decide) (by decide) ?_ | refine sm_get_p1n (by decide) rfl ?_ | refine sm_get_p2n (by decide) (by decide) rfl ?_)) ?_
  refine Bod.go dc_297_70 rfl ?_
  exact hB _ (by repeat (first | exact h0 | exact sm_get_p1 | exact sm_get_p2e | refine sm_get_p1m (by decide) (by decide) ?_ | refine sm_get_p1n (by decide) rfl ?_ | refine sm_get_p2n (by decide) (by decide) rfl ?_)) (by repeat (first | exact h1 | exact sm_get_p1 | exact sm_get_p2e | refine sm_get_p1m (by decide) (by decide) ?_ | refine sm_get_p1n (by decide) rfl ?_ | refine sm_get_p2n (by decide) (by decide) rfl ?_)) (by repeat (first | exact h2 | exact sm_get_p1 | exact sm_get_p2e | refine sm_get_p1m (by decide) (by decide) ?_ | refine sm_get_p1n (by decide) rfl ?_ | refine sm_get_p2n (by decide) (by decide) rfl ?_)) (by repeat (first | exact h3 | exact sm_get_p1 | exact sm_get_p2e | refine sm_get_p1m (by decide) (by decide) ?_ | refine sm_get_p1n (by decide) rfl ?_ | refine sm_get_p2n (by decide) (by decide) rfl ?_)) (by repeat (first | exact h4 | exact sm_get_p1 | exact sm_get_p2e | refine sm_get_p1m (by decide) (by decide) ?_ | refine sm_get_p1n (by decide) rfl ?_ | refine sm_get_p2n (by decide) (by decide) rfl ?_)) (by repeat (first | exact h6 | exact sm_get_p1 | exact sm_get_p2e | refine sm_get_p1m (by decide) (by decide) ?_ | refine sm_get_p1n (by decide) rfl ?_ | refine sm_get_p2n (by decide) (by decide) rfl ?_))
theorem pq_out0 {d fr M hf k : Nat} {w : Int64} {S Sf : cS} {lv : sm_L} {v : Option Value} {x : Nat} (hfr : fr + M ≤ 40) (hM : M ≤ 15) (hhf : hf ≤ 1) (h0 : sm_get lv 0 = some (.ref 104)) (h1 : sm_get lv 1 = some (.int (nI fr))) (h2 : sm_get lv 2 = some (.int (nI M))) (h3 : sm_get lv 3 = some (.int (nI hf))) (h4 : sm_get lv 4 = some (.long w)) (h6 : sm_get lv 6 = some (.int (nI k))) (hk : k < 8) (hh : hf ≠ 1) (hi : M ≤ 8 * hf + k) (hB : ∀ lv1 : sm_L, sm_get lv1 0 = some (.ref 104) → sm_get lv1 1 = some (.int (nI fr)) → sm_get lv1 2 = some (.int (nI M)) → sm_get lv1 3 = some (.int (nI hf)) → sm_get lv1 4 = some (.long ((w <<< ((nI 8).toInt64 &&& 63)) ||| (nI 0).toInt64)) → sm_get lv1 6 = some (.int (nI (k + 1))) → Bod d 297 6 lv1 [] S v Sf) : Bod d 297 6 lv [] S v Sf := by
  refine Bod.ildG dc_297_6 (by repeat (first | exact h6 | exact sm_get_p1 | exact sm_get_p2e | refine sm_get_p1m (by decide) (by decide) ?_ | refine sm_get_p1n (by decide) rfl ?_ | refine sm_get_p2n (by decide) (by decide) rfl ?_)) ?_
  refine Bod.bip 8 (by decide) dc_297_8 ?_
  refine Bod.icF dc_297_10 rfl (k2_ge_F k 8 rfl rfl (by omega) (by omega)) ?_
  refine Bod.bip 8 (by decide) dc_297_13 ?_
  refine Bod.ildnG dc_297_15 (by repeat (first | exact h3 | exact sm_get_p1 | exact sm_get_p2e | refine sm_get_p1m (by decide) (by decide) ?_ | refine sm_get_p1n (by decide) rfl ?_ | refine sm_get_p2n (by decide) (by decide) rfl ?_)) ?_
  refine Bod.mulN (8 * hf) (by omega) dc_297_16 ?_
  refine Bod.ildG dc_297_17 (by repeat (first | exact h6 | exact sm_get_p1 | exact sm_get_p2e | refine sm_get_p1m (by decide) (by decide) ?_ | refine sm_get_p1n (by decide) rfl ?_ | refine sm_get_p2n (by decide) (by decide) rfl ?_)) ?_
  refine Bod.addN (8 * hf + k) (by omega) dc_297_19 ?_
  refine Bod.ist dc_297_20 (by rw [ml_297]; exact Nat.le_of_ble_eq_true rfl) ?_
  refine Bod.lldG dc_297_22 (by repeat (first | exact h4 | exact sm_get_p1 | exact sm_get_p2e | refine sm_get_p1m (by decide) (by decide) ?_ | refine sm_get_p1n (by decide) rfl ?_ | refine sm_get_p2n (by decide) (by decide) rfl ?_)) ?_
  refine Bod.bip 8 (by decide) dc_297_24 ?_
  refine Bod.go dc_297_26 rfl ?_
  refine Bod.ildnG dc_297_27 (by repeat (first | exact h3 | exact sm_get_p1 | exact sm_get_p2e | refine sm_get_p1m (by decide) (by decide) ?_ | refine sm_get_p1n (by decide) rfl ?_ | refine sm_get_p2n (by decide) (by decide) rfl ?_)) ?_
  refine Bod.ic 1 (by decide) dc_297_28 ?_
  refine Bod.icT dc_297_29 rfl (k2_ne_T (k_ne hf 1 rfl rfl (by omega) (by omega) (by omega))) ?_
  refine Bod.go dc_297_43 rfl ?_
  refine Bod.ildnG dc_297_45 (by repeat (first | exact h2 | exact sm_get_p1 | exact sm_get_p2e | refine sm_get_p1m (by decide) (by decide) ?_ | refine sm_get_p1n (by decide) rfl ?_ | refine sm_get_p2n (by decide) (by decide) rfl ?_)) ?_
  refine Bod.icT dc_297_46 rfl (k2_ge_T (8 * hf + k) M rfl rfl (by omega) (by omega)) ?_
  refine Bod.ic 0 (by decide) dc_297_62 ?_
  refine Bod.go dc_297_63 rfl ?_
  refine Bod.go dc_297_64 rfl ?_
  refine Bod.lst dc_297_65 (by rw [ml_297]; exact Nat.le_of_ble_eq_true rfl) ?_
  refine Bod.incN (k + 1) (by rw [kc_1, nI_add]) dc_297_67 (by rw [ml_297]; exact Nat.le_of_ble_eq_true rfl) (by repeat (first | exact h6 | exact sm_get_p1 | exact sm_get_p2e | refine sm_get_p1m (by decide) (by decide) ?_ | refine sm_get_p1n (by decide) rfl ?_ | refine sm_get_p2n (by decide) (by decide) rfl ?_)) ?_
  refine Bod.go dc_297_70 rfl ?_
  exact hB _ (by repeat (first | exact h0 | exact sm_get_p1 | exact sm_get_p2e | refine sm_get_p1m (by decide) (by decide) ?_ | refine sm_get_p1n (by decide) rfl ?_ | refine sm_get_p2n (by decide) (by decide) rfl ?_)) (by repeat (first | exact h1 | exact sm_get_p1 | exact sm_get_p2e | refine sm_get_p1m (by decide) (by decide) ?_ | refine sm_get_p1n (by decide) rfl ?_ | refine sm_get_p2n (by decide) (by decide) rfl ?_)) (by repeat (first | exact h2 | exact sm_get_p1 | exact sm_get_p2e | refine sm_get_p1m (by decide) (by decide) ?_ | refine sm_get_p1n (by decide) rfl ?_ | refine sm_get_p2n (by decide) (by decide) rfl ?_)) (by repeat (first | exact h3 | exact sm_get_p1 | exact sm_get_p2e | refine sm_get_p1m (by decide) (by decide) ?_ | refine sm_get_p1n (by decide) rfl ?_ | refine sm_get_p2n (by decide) (by decide) rfl ?_)) (by repeat (first | exact h4 | exact sm_get_p1 | exact sm_get_p2e | refine sm_get_p1m (by decide) (by decide) ?_ | refine sm_get_p1n (by decide) rfl ?_ | refine sm_get_p2n (by decide) (by decide) rfl ?_)) (by repeat (first | exact h6 | exact sm_get_p1 | exact sm_get_p2e | refine sm_get_p1m (by decide) (by decide) ?_ | refine sm_get_p1n (by decide) rfl ?_ | refine sm_get_p2n (by decide) (by decide) rfl ?_))
theorem pq_out1 {d fr M hf k : Nat} {w : Int64} {S Sf : cS} {lv : sm_L} {v : Option Value} {x : Nat} (hfr : fr + M ≤ 40) (hM : M ≤ 15) (hhf : hf ≤ 1) (h0 : sm_get lv 0 = some (.ref 104)) (h1 : sm_get lv 1 = some (.int (nI fr))) (h2 : sm_get lv 2 = some (.int (nI M))) (h3 : sm_get lv 3 = some (.int (nI hf))) (h4 : sm_get lv 4 = some (.long w)) (h6 : sm_get lv 6 = some (.int (nI k))) (hk : k < 8) (hh : hf = 1) (h7 : k ≠ 7) (hi : M ≤ 8 * hf + k) (hB : ∀ lv1 : sm_L, sm_get lv1 0 = some (.ref 104) → sm_get lv1 1 = some (.int (nI fr)) → sm_get lv1 2 = some (.int (nI M)) → sm_get lv1 3 = some (.int (nI hf)) → sm_get lv1 4 = some (.long ((w <<< ((nI 8).toInt64 &&& 63)) ||| (nI 0).toInt64)) → sm_get lv1 6 = some (.int (nI (k + 1))) → Bod d 297 6 lv1 [] S v Sf) : Bod d 297 6 lv [] S v Sf := by
  refine Bod.ildG dc_297_6 (by repeat (first | exact h6 | exact sm_get_p1 | exact sm_get_p2e | refine sm_get_p1m (by decide) (by decide) ?_ | refine sm_get_p1n (by decide) rfl ?_ | refine sm_get_p2n (by decide) (by decide) rfl ?_)) ?_
  refine Bod.bip 8 (by decide) dc_297_8 ?_
  refine Bod.icF dc_297_10 rfl (k2_ge_F k 8 rfl rfl (by omega) (by omega)) ?_
  refine Bod.bip 8 (by decide) dc_297_13 ?_
  refine Bod.ildnG dc_297_15 (by repeat (first | exact h3 | exact sm_get_p1 | exact sm_get_p2e | refine sm_get_p1m (by decide) (by decide) ?_ | refine sm_get_p1n (by decide) rfl ?_ | refine sm_get_p2n (by decide) (by decide) rfl ?_)) ?_
  refine Bod.mulN (8 * hf) (by omega) dc_297_16 ?_
  refine Bod.ildG dc_297_17 (by repeat (first | exact h6 | exact sm_get_p1 | exact sm_get_p2e | refine sm_get_p1m (by decide) (by decide) ?_ | refine sm_get_p1n (by decide) rfl ?_ | refine sm_get_p2n (by decide) (by decide) rfl ?_)) ?_
  refine Bod.addN (8 * hf + k) (by omega) dc_297_19 ?_
  refine Bod.ist dc_297_20 (by rw [ml_297]; exact Nat.le_of_ble_eq_true rfl) ?_
  refine Bod.lldG dc_297_22 (by repeat (first | exact h4 | exact sm_get_p1 | exact sm_get_p2e | refine sm_get_p1m (by decide) (by decide) ?_ | refine sm_get_p1n (by decide) rfl ?_ | refine sm_get_p2n (by decide) (by decide) rfl ?_)) ?_
  refine Bod.bip 8 (by decide) dc_297_24 ?_
  refine Bod.go dc_297_26 rfl ?_
  refine Bod.ildnG dc_297_27 (by repeat (first | exact h3 | exact sm_get_p1 | exact sm_get_p2e | refine sm_get_p1m (by decide) (by decide) ?_ | refine sm_get_p1n (by decide) rfl ?_ | refine sm_get_p2n (by decide) (by decide) rfl ?_)) ?_
  refine Bod.ic 1 (by decide) dc_297_28 ?_
  refine Bod.icF dc_297_29 rfl (k2_ne_F (k_eq hf 1 rfl rfl (by omega))) ?_
  refine Bod.ildG dc_297_32 (by repeat (first | exact h6 | exact sm_get_p1 | exact sm_get_p2e | refine sm_get_p1m (by decide) (by decide) ?_ | refine sm_get_p1n (by decide) rfl ?_ | refine sm_get_p2n (by decide) (by decide) rfl ?_)) ?_
  refine Bod.bip 7 (by decide) dc_297_34 ?_
  refine Bod.icT dc_297_36 rfl (k2_ne_T (k_ne k 7 rfl rfl (by omega) (by omega) (by omega))) ?_
  refine Bod.go dc_297_43 rfl ?_
  refine Bod.ildnG dc_297_45 (by repeat (first | exact h2 | exact sm_get_p1 | exact sm_get_p2e | refine sm_get_p1m (by decide) (by decide) ?_ | refine sm_get_p1n (by decide) rfl ?_ | refine sm_get_p2n (by decide) (by decide) rfl ?_)) ?_
  refine Bod.icT dc_297_46 rfl (k2_ge_T (8 * hf + k) M rfl rfl (by omega) (by omega)) ?_
  refine Bod.ic 0 (by decide) dc_297_62 ?_
  refine Bod.go dc_297_63 rfl ?_
  refine Bod.go dc_297_64 rfl ?_
  refine Bod.lst dc_297_65 (by rw [ml_297]; exact Nat.le_of_ble_eq_true rfl) ?_
  refine Bod.incN (k + 1) (by rw [kc_1, nI_add]) dc_297_67 (by rw [ml_297]; exact Nat.le_of_ble_eq_true rfl) (by repeat (first | exact h6 | exact sm_get_p1 | exact sm_get_p2e | refine sm_get_p1m (by decide) (by decide) ?_ | refine sm_get_p1n (by decide) rfl ?_ | refine sm_get_p2n (by decide) (by decide) rfl ?_)) ?_
  refine Bod.go dc_297_70 rfl ?_
  exact hB _ (by repeat (first | exact h0 | exact sm_get_p1 | exact sm_get_p2e | refine sm_get_p1m (by decide) (by decide) ?_ | refine sm_get_p1n (by decide) rfl ?_ | refine sm_get_p2n (by decide) (by decide) rfl ?_)) (by repeat (first | exact h1 | exact sm_get_p1 | exact sm_get_p2e | refine sm_get_p1m (by decide) (by decide) ?_ | refine sm_get_p1n (by decide) rfl ?_ | refine sm_get_p2n (by decide) (by decide) rfl ?_)) (by repeat (first | exact h2 | exact sm_get_p1 | exact sm_get_p2e | refine sm_get_p1m (by decide) (by decide) ?_ | refine sm_get_p1n (by decide) rfl ?_ | refine sm_get_p2n (by decide) (by decide) rfl ?_)) (by repeat (first | exact h3 | exact sm_get_p1 | exact sm_get_p2e | refine sm_get_p1m (by decide) (by decide) ?_ | refine sm_get_p1n (by decide) rfl ?_ | refine sm_get_p2n (by decide) (by decide) rfl ?_)) (by repeat (first | exact h4 | exact sm_get_p1 | exact sm_get_p2e | refine sm_get_p1m (by decide) (by decide) ?_ | refine sm_get_p1n (by decide) rfl ?_ | refine sm_get_p2n (by decide) (by decide) rfl ?_)) (by repeat (first | exact h6 | exact sm_get_p1 | exact sm_get_p2e | refine sm_get_p1m (by decide) (by decide) ?_ | refine sm_get_p1n (by decide) rfl ?_ | refine sm_get_p2n (by decide) (by decide) rfl ?_))
theorem tpq_go {d fr M hf : Nat} {S Sf : cS} {v : Option Value} (hB : ∀ lv1 : sm_L, sm_get lv1 0 = some (.ref 104) → sm_get lv1 1 = some (.int (nI fr)) → sm_get lv1 2 = some (.int (nI M)) → sm_get lv1 3 = some (.int (nI hf)) → sm_get lv1 4 = some (.long 0) → sm_get lv1 6 = some (.int (nI 0)) → Bod d 297 6 lv1 [] S v Sf) : Ans (d + 1) 297 [.ref 104, .int (nI fr), .int (nI M), .int (nI hf)] S v Sf := by
  refine Ans.of (by rw [ml_297]; exact Nat.le_of_ble_eq_true rfl) ?_
  refine Bod.go dc_297_0 rfl ?_
  refine Bod.lst dc_297_1 (by rw [ml_297]; exact Nat.le_of_ble_eq_true rfl) ?_
  refine Bod.ic 0 (by decide) dc_297_3 ?_
  refine Bod.ist dc_297_4 (by rw [ml_297]; exact Nat.le_of_ble_eq_true rfl) ?_
  exact hB _ (by repeat (first | exact sm_get_p1 | exact sm_get_p2e | refine sm_get_p1m (by decide) (by decide) ?_ | refine sm_get_p1n (by decide) rfl ?_ | refine sm_get_p2n (by decide) (by decide) rfl ?_ | rfl)) (by repeat (first | exact sm_get_p1 | exact sm_get_p2e | refine sm_get_p1m (by decide) (by decide) ?_ | refine sm_get_p1n (by decide) rfl ?_ | refine sm_get_p2n (by decide) (by decide) rfl ?_ | rfl)) (by repeat (first | exact sm_get_p1 | exact sm_get_p2e | refine sm_get_p1m (by decide) (by decide) ?_ | refine sm_get_p1n (by decide) rfl ?_ | refine sm_get_p2n (by decide) (by decide) rfl ?_ | rfl)) (by repeat (first | exact sm_get_p1 | exact sm_get_p2e | refine sm_get_p1m (by decide) (by decide) ?_ | refine sm_get_p1n (by decide) rfl ?_ | refine sm_get_p2n (by decide) (by decide) rfl ?_ | rfl)) (by repeat (first | exact sm_get_p1 | exact sm_get_p2e | refine sm_get_p1m (by decide) (by decide) ?_ | refine sm_get_p1n (by decide) rfl ?_ | refine sm_get_p2n (by decide) (by decide) rfl ?_ | rfl)) (by repeat (first | exact sm_get_p1 | exact sm_get_p2e | refine sm_get_p1m (by decide) (by decide) ?_ | refine sm_get_p1n (by decide) rfl ?_ | refine sm_get_p2n (by decide) (by decide) rfl ?_ | rfl))
theorem tpq_loop {d fr M hf : Nat} {S : cS} {f : Nat → Nat} (hfr : fr + M ≤ 40) (hM : M ≤ 15) (hhf : hf ≤ 1) (hb : ∀ i, i < M → f i < 256 ∧ sA S 104 (fr + i) &&& nI 255 = nI (f i)) : ∀ (r k : Nat) (lv : sm_L), k + r = 8 → sm_get lv 0 = some (.ref 104) → sm_get lv 1 = some (.int (nI fr)) → sm_get lv 2 = some (.int (nI M)) → sm_get lv 3 = some (.int (nI hf)) → sm_get lv 4 = some (.long (lN (bE (pk_g f M hf) k))) → sm_get lv 6 = some (.int (nI k)) → Bod d 297 6 lv [] S (some (.long (lN (bE (pk_g f M hf) 8)))) S := by
  have hg : ∀ i, pk_g f M hf i < 256 := fun i => by
    unfold pk_g
    split
    · omega
    · split
      · rename_i h; exact (hb _ h).1
      · omega
  intro r
  induction r with
  | zero =>
    intro k lv hk h0 h1 h2 h3 h4 h6
    obtain rfl : k = 8 := by omega
    exact pq_end hfr hM hhf h0 h1 h2 h3 h4 h6 rfl
  | succ r ih =>
    intro k lv hk h0 h1 h2 h3 h4 h6
    have hlt : bE (pk_g f M hf) k < 2 ^ 56 := Nat.lt_of_lt_of_le (bE_lt (fun i _ => hg i)) (Nat.pow_le_pow_right (by decide) (by omega))
    have next : ∀ lv1 : sm_L, sm_get lv1 0 = some (.ref 104) → sm_get lv1 1 = some (.int (nI fr)) → sm_get lv1 2 = some (.int (nI M)) → sm_get lv1 3 = some (.int (nI hf)) → sm_get lv1 4 = some (.long ((lN (bE (pk_g f M hf) k) <<< ((nI 8).toInt64 &&& 63)) ||| (nI (pk_g f M hf k)).toInt64)) → sm_get lv1 6 = some (.int (nI (k + 1))) → Bod d 297 6 lv1 [] S (some (.long (lN (bE (pk_g f M hf) 8)))) S := fun lv1 a0 a1 a2 a3 a4 a6 => by
      rw [pk_step hlt (hg k)] at a4
      exact ih (k + 1) lv1 (by omega) a0 a1 a2 a3 a4 a6
    by_cases h7 : hf = 1 ∧ k = 7
    · rw [show pk_g f M hf k = M from if_pos h7] at next
      exact pq_many (x := 0) hfr hM hhf h0 h1 h2 h3 h4 h6 (by omega) h7.2 h7.1 next
    · by_cases hi : 8 * hf + k < M
      · rw [show pk_g f M hf k = f (8 * hf + k) from by unfold pk_g; rw [if_neg h7, if_pos hi], ← (hb _ hi).2, ← Nat.add_assoc] at next
        by_cases hh : hf = 1
        · exact pq_in1 (x := 0) hfr hM hhf h0 h1 h2 h3 h4 h6 (by omega) hh (fun e => h7 ⟨hh, e⟩) hi next
        · exact pq_in0 (x := 0) hfr hM hhf h0 h1 h2 h3 h4 h6 (by omega) hh hi next
      · rw [show pk_g f M hf k = 0 from by unfold pk_g; rw [if_neg h7, if_neg hi]] at next
        by_cases hh : hf = 1
        · exact pq_out1 (x := 0) hfr hM hhf h0 h1 h2 h3 h4 h6 (by omega) hh (fun e => h7 ⟨hh, e⟩) (by omega) next
        · exact pq_out0 (x := 0) hfr hM hhf h0 h1 h2 h3 h4 h6 (by omega) hh (by omega) next
theorem packq_ev {d fr M hf : Nat} {S : cS} {f : Nat → Nat} (hfr : fr + M ≤ 40) (hM : M ≤ 15) (hhf : hf ≤ 1) (hb : ∀ i, i < M → f i < 256 ∧ sA S 104 (fr + i) &&& nI 255 = nI (f i)) : Ans (d + 1) 297 [.ref 104, .int (nI fr), .int (nI M), .int (nI hf)] S (some (.long (if hf = 0 then p_A f M else p_B f M))) S := by
  have h := tpq_go (d := d) (hf := hf) (S := S) (fun lv1 h0 h1 h2 h3 h4 h6 => tpq_loop hfr hM hhf hb 8 0 lv1 rfl h0 h1 h2 h3 h4 h6)
  have e : lN (bE (pk_g f M hf) 8) = if hf = 0 then p_A f M else p_B f M := by
    split
    · rename_i h0
      subst h0
      unfold p_A
      refine congrArg lN (bE_congr (fun i _ => ?_))
      unfold pk_g
      rw [if_neg (by omega), Nat.mul_zero, Nat.zero_add]
    · rename_i h0
      obtain rfl : hf = 1 := by omega
      unfold p_B
      refine congrArg lN (bE_congr (fun i _ => ?_))
      unfold pk_g
      by_cases h7 : i = 7
      · rw [if_pos ⟨rfl, h7⟩, if_pos h7]
      · rw [if_neg (fun c => h7 c.2), if_neg h7]
  rw [e] at h
  exact h
