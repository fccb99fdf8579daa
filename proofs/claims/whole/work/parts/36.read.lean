/-! NAMES under the table; TEXTS to their end -/
theorem dc_46_0 : decode (sm_cc 46) 0 = .ok (.aload_n 0, 1) := by decide +kernel
theorem dc_46_1 : decode (sm_cc 46) 1 = .ok (.ldc2_w 83, 3) := by decide +kernel
theorem cj_46_83 : sm_at mt_cj (sm_ow 46) 83 = some (83, (3458764513820540928), 988) := by decide +kernel
theorem dc_46_4 : decode (sm_cc 46) 4 = .ok (.putfield 110, 3) := by decide +kernel
theorem dc_46_7 : decode (sm_cc 46) 7 = .ok (.aload_n 0, 1) := by decide +kernel
theorem dc_46_8 : decode (sm_cc 46) 8 = .ok (.lconst 0, 1) := by decide +kernel
theorem dc_46_9 : decode (sm_cc 46) 9 = .ok (.putfield 113, 3) := by decide +kernel
theorem dc_46_12 : decode (sm_cc 46) 12 = .ok (.aload_n 0, 1) := by decide +kernel
theorem dc_46_13 : decode (sm_cc 46) 13 = .ok (.dup, 1) := by decide +kernel
theorem dc_46_14 : decode (sm_cc 46) 14 = .ok (.getfield 23, 3) := by decide +kernel
theorem dc_46_17 : decode (sm_cc 46) 17 = .ok (.iconst 1, 1) := by decide +kernel
theorem dc_46_18 : decode (sm_cc 46) 18 = .ok (.iadd, 1) := by decide +kernel
theorem dc_46_19 : decode (sm_cc 46) 19 = .ok (.putfield 23, 3) := by decide +kernel
theorem dc_46_22 : decode (sm_cc 46) 22 = .ok (.aload_n 0, 1) := by decide +kernel
theorem dc_46_23 : decode (sm_cc 46) 23 = .ok (.aload_n 0, 1) := by decide +kernel
theorem dc_46_24 : decode (sm_cc 46) 24 = .ok (.getfield 23, 3) := by decide +kernel
theorem dc_46_27 : decode (sm_cc 46) 27 = .ok (.invokevirtual 50, 3) := by decide +kernel
theorem dc_46_30 : decode (sm_cc 46) 30 = .ok (.istore_n 1, 1) := by decide +kernel
theorem readName_tail_w {d q : Nat} {S S1 : cS} {hi lo : Int64} {x : Int32} (hC : Ans (d + 2) 15 [.ref 16, .long hi, .long lo] S (some (.int (nI q))) S1) (h24 : q < 24) : Bod (d + 2) 42 100 [(5, .int x), (1, .long hi), (3, .long lo), (0, .ref 31)] [] S none (wI 3105 (nI (q + 40)) (wI 3109 (nI q) S1)) := by
  refine Bod.go dc_42_100 rfl ?_
  refine Bod.go dc_42_101 rfl ?_
  refine Bod.get dc_42_102 fr_42_15 (mk_31 _) rfl ?_
  refine Bod.go dc_42_105 rfl ?_
  refine Bod.go dc_42_106 rfl ?_
  refine Bod.virt (r := [_]) dc_42_107 kr_42_93 ⟨Or.inr rfl, ow_15, cl_5⟩ (by rw [np_15]; rfl) (by rw [np_15]; rfl) (ob_of (mk_16 _)) (Nat.le_of_ble_eq_true rfl) (hC  ) ?_
  show Bod _ _ _ _ [_, _] _ _ _
  refine Bod.put dc_42_110 fr_42_99 (mk_31 _) (Nat.le_of_ble_eq_true rfl) pf_3_9 (st_3109 _ _) (mu_I _ _ _) ?_
  refine Bod.go dc_42_113 rfl ?_
  refine Bod.go dc_42_114 rfl ?_
  refine Bod.get dc_42_115 fr_42_99 (mk_31 _) rfl ?_
  refine Bod.eqI (nI q) (by first | (simp (disch := omega) only [rI, rIe, rA, rIA, rLA, rJA, rVI, rQI, rVA, rQA, upd_at,  rAI, rLI, rJI, nI_add, pk_sub, kc_0, kc_1, kc_2, kc_3, kc_4, kc_5, reduceIte, Nat.reduceEqDiff, Nat.add_zero, rI_hold, rI_hold, rL_hold]; done) | (simp (disch := omega) only [rI, rIe, rA, rIA, rLA, rJA, rVI, rQI, rVA, rQA, upd_at,  rAI, rLI, rJI, nI_add, pk_sub, kc_0, kc_1, kc_2, kc_3, kc_4, kc_5, reduceIte, Nat.reduceEqDiff, Nat.add_zero, rI_hold, rI_hold, rL_hold]; exact congrArg nI (by omega))) ?_
  refine Bod.ifF dc_42_118 rfl (k1_lt_F q rfl (by omega)) ?_
  refine Bod.go dc_42_121 rfl ?_
  refine Bod.get dc_42_122 fr_42_99 (mk_31 _) rfl ?_
  refine Bod.eqI (nI q) (by first | (simp (disch := omega) only [rI, rIe, rA, rIA, rLA, rJA, rVI, rQI, rVA, rQA, upd_at,  rAI, rLI, rJI, nI_add, pk_sub, kc_0, kc_1, kc_2, kc_3, kc_4, kc_5, reduceIte, Nat.reduceEqDiff, Nat.add_zero, rI_hold, rI_hold, rL_hold]; done) | (simp (disch := omega) only [rI, rIe, rA, rIA, rLA, rJA, rVI, rQI, rVA, rQA, upd_at,  rAI, rLI, rJI, nI_add, pk_sub, kc_0, kc_1, kc_2, kc_3, kc_4, kc_5, reduceIte, Nat.reduceEqDiff, Nat.add_zero, rI_hold, rI_hold, rL_hold]; exact congrArg nI (by omega))) ?_
  refine Bod.bip 24 (by decide) dc_42_125 ?_
  refine Bod.icF dc_42_127 rfl (k2_ge_F q 24 rfl rfl (by omega) (by omega)) ?_
  refine Bod.bip 40 (by decide) dc_42_130 ?_
  refine Bod.go dc_42_132 rfl ?_
  refine Bod.get dc_42_133 fr_42_99 (mk_31 _) rfl ?_
  refine Bod.eqI (nI q) (by first | (simp (disch := omega) only [rI, rIe, rA, rIA, rLA, rJA, rVI, rQI, rVA, rQA, upd_at,  rAI, rLI, rJI, nI_add, pk_sub, kc_0, kc_1, kc_2, kc_3, kc_4, kc_5, reduceIte, Nat.reduceEqDiff, Nat.add_zero, rI_hold, rI_hold, rL_hold]; done) | (simp (disch := omega) only [rI, rIe, rA, rIA, rLA, rJA, rVI, rQI, rVA, rQA, upd_at,  rAI, rLI, rJI, nI_add, pk_sub, kc_0, kc_1, kc_2, kc_3, kc_4, kc_5, reduceIte, Nat.reduceEqDiff, Nat.add_zero, rI_hold, rI_hold, rL_hold]; exact congrArg nI (by omega))) ?_
  refine Bod.addN (q + 40) (by omega) dc_42_136 ?_
  refine Bod.go dc_42_137 rfl ?_
  refine Bod.put dc_42_141 fr_42_38 (mk_31 _) (Nat.le_of_ble_eq_true rfl) pf_3_5 (st_3105 _ _) (mu_I _ _ _) ?_
  refine Bod.go dc_42_144 rfl ?_
  refine Bod.get dc_42_145 fr_42_99 (mk_31 _) rfl ?_
  refine Bod.eqI (nI q) (by first | (simp (disch := omega) only [rI, rIe, rA, rIA, rLA, rJA, rVI, rQI, rVA, rQA, upd_at,  rAI, rLI, rJI, nI_add, pk_sub, kc_0, kc_1, kc_2, kc_3, kc_4, kc_5, reduceIte, Nat.reduceEqDiff, Nat.add_zero, rI_hold, rI_hold, rL_hold]; done) | (simp (disch := omega) only [rI, rIe, rA, rIA, rLA, rJA, rVI, rQI, rVA, rQA, upd_at,  rAI, rLI, rJI, nI_add, pk_sub, kc_0, kc_1, kc_2, kc_3, kc_4, kc_5, reduceIte, Nat.reduceEqDiff, Nat.add_zero, rI_hold, rI_hold, rL_hold]; exact congrArg nI (by omega))) ?_
  refine Bod.ifT dc_42_148 rfl (k1_ge_T q rfl (by omega)) ?_
  exact Bod.retV dc_42_155 rt_42
theorem readName_tail_n {d q : Nat} {S S1 : cS} {hi lo : Int64} {x : Int32} (hC : Ans (d + 2) 15 [.ref 16, .long hi, .long lo] S (some (.int (nI q))) S1) (h24 : 24 ≤ q) (hq : q < 4096) : Bod (d + 2) 42 100 [(5, .int x), (1, .long hi), (3, .long lo), (0, .ref 31)] [] S none (wI 3105 (nI 3) (wI 3109 (nI q) S1)) := by
  refine Bod.go dc_42_100 rfl ?_
  refine Bod.go dc_42_101 rfl ?_
  refine Bod.get dc_42_102 fr_42_15 (mk_31 _) rfl ?_
  refine Bod.go dc_42_105 rfl ?_
  refine Bod.go dc_42_106 rfl ?_
  refine Bod.virt (r := [_]) dc_42_107 kr_42_93 ⟨Or.inr rfl, ow_15, cl_5⟩ (by rw [np_15]; rfl) (by rw [np_15]; rfl) (ob_of (mk_16 _)) (Nat.le_of_ble_eq_true rfl) (hC  ) ?_
  show Bod _ _ _ _ [_, _] _ _ _
  refine Bod.put dc_42_110 fr_42_99 (mk_31 _) (Nat.le_of_ble_eq_true rfl) pf_3_9 (st_3109 _ _) (mu_I _ _ _) ?_
  refine Bod.go dc_42_113 rfl ?_
  refine Bod.go dc_42_114 rfl ?_
  refine Bod.get dc_42_115 fr_42_99 (mk_31 _) rfl ?_
  refine Bod.eqI (nI q) (by first | (simp (disch := omega) only [rI, rIe, rA, rIA, rLA, rJA, rVI, rQI, rVA, rQA, upd_at,  rAI, rLI, rJI, nI_add, pk_sub, kc_0, kc_1, kc_2, kc_3, kc_4, kc_5, reduceIte, Nat.reduceEqDiff, Nat.add_zero, rI_hold, rI_hold, rL_hold]; done) | (simp (disch := omega) only [rI, rIe, rA, rIA, rLA, rJA, rVI, rQI, rVA, rQA, upd_at,  rAI, rLI, rJI, nI_add, pk_sub, kc_0, kc_1, kc_2, kc_3, kc_4, kc_5, reduceIte, Nat.reduceEqDiff, Nat.add_zero, rI_hold, rI_hold, rL_hold]; exact congrArg nI (by omega))) ?_
  refine Bod.ifF dc_42_118 rfl (k1_lt_F q rfl (by omega)) ?_
  refine Bod.go dc_42_121 rfl ?_
  refine Bod.get dc_42_122 fr_42_99 (mk_31 _) rfl ?_
  refine Bod.eqI (nI q) (by first | (simp (disch := omega) only [rI, rIe, rA, rIA, rLA, rJA, rVI, rQI, rVA, rQA, upd_at,  rAI, rLI, rJI, nI_add, pk_sub, kc_0, kc_1, kc_2, kc_3, kc_4, kc_5, reduceIte, Nat.reduceEqDiff, Nat.add_zero, rI_hold, rI_hold, rL_hold]; done) | (simp (disch := omega) only [rI, rIe, rA, rIA, rLA, rJA, rVI, rQI, rVA, rQA, upd_at,  rAI, rLI, rJI, nI_add, pk_sub, kc_0, kc_1, kc_2, kc_3, kc_4, kc_5, reduceIte, Nat.reduceEqDiff, Nat.add_zero, rI_hold, rI_hold, rL_hold]; exact congrArg nI (by omega))) ?_
  refine Bod.bip 24 (by decide) dc_42_125 ?_
  refine Bod.icT dc_42_127 rfl (k2_ge_T q 24 rfl rfl (by omega) (by omega)) ?_
  refine Bod.ic 3 (by decide) dc_42_140 ?_
  refine Bod.put dc_42_141 fr_42_38 (mk_31 _) (Nat.le_of_ble_eq_true rfl) pf_3_5 (st_3105 _ _) (mu_I _ _ _) ?_
  refine Bod.go dc_42_144 rfl ?_
  refine Bod.get dc_42_145 fr_42_99 (mk_31 _) rfl ?_
  refine Bod.eqI (nI q) (by first | (simp (disch := omega) only [rI, rIe, rA, rIA, rLA, rJA, rVI, rQI, rVA, rQA, upd_at,  rAI, rLI, rJI, nI_add, pk_sub, kc_0, kc_1, kc_2, kc_3, kc_4, kc_5, reduceIte, Nat.reduceEqDiff, Nat.add_zero, rI_hold, rI_hold, rL_hold]; done) | (simp (disch := omega) only [rI, rIe, rA, rIA, rLA, rJA, rVI, rQI, rVA, rQA, upd_at,  rAI, rLI, rJI, nI_add, pk_sub, kc_0, kc_1, kc_2, kc_3, kc_4, kc_5, reduceIte, Nat.reduceEqDiff, Nat.add_zero, rI_hold, rI_hold, rL_hold]; exact congrArg nI (by omega))) ?_
  refine Bod.ifT dc_42_148 rfl (k1_ge_T q rfl (by omega)) ?_
  exact Bod.retV dc_42_155 rt_42
theorem NT_I {k z : Nat} {x : Int32} {S : cS} (hk : 1607 ≠ k) (h : c_NT S z) : c_NT (wI k x S) z := by
  obtain ⟨h1, h2, h3, h4⟩ := h
  refine ⟨(rIn x S hk).trans h1, h2, h3, fun a ha => ?_⟩
  obtain ⟨b, cs, e1, e2, e3, e4⟩ := h4 a ha
  exact ⟨b, cs, e1, chain_congr (S := S) (S1 := wI k x S) cs b (fun _ _ => rfl) e2, e3, e4⟩
/-- a word; a name that is known; a new name -/
theorem readName_word {d n p M z : Nat} {S : cS} (hM : n ≤ 3000) (hM1 : 1 ≤ M) (hM2 : M ≤ 12) (hn : sI S 3102 = nI n) (hs : sI S 3104 = nI p) (hp : sI S 3103 = nI p) (hpn : p + M ≤ n) (ha : ∀ x, x < M → c_al S n (p + x)) (he : ¬ c_al S n (p + M)) (hN : c_NT S z) (hz : z < 4096) {q : Nat} (hq : q < z) (h24 : q < 24) (hi : c_is S (c_nmH S p M) (c_nmL S p M) q) : Ans (d + 3) 42 [.ref 31] S none (wI 3105 (nI (q + 40)) (wI 3109 (nI q) (wI 3103 (nI (p + M)) S))) :=
  readName_to hM hM1 hM2 hn hs hp hpn ha he (readName_tail_w (number_old (NT_I (by decide) hN) hz hq hi) h24)
theorem readName_known {d n p M z : Nat} {S : cS} (hM : n ≤ 3000) (hM1 : 1 ≤ M) (hM2 : M ≤ 12) (hn : sI S 3102 = nI n) (hs : sI S 3104 = nI p) (hp : sI S 3103 = nI p) (hpn : p + M ≤ n) (ha : ∀ x, x < M → c_al S n (p + x)) (he : ¬ c_al S n (p + M)) (hN : c_NT S z) (hz : z < 4096) {q : Nat} (hq : q < z) (h24 : 24 ≤ q) (hi : c_is S (c_nmH S p M) (c_nmL S p M) q) : Ans (d + 3) 42 [.ref 31] S none (wI 3105 (nI 3) (wI 3109 (nI q) (wI 3103 (nI (p + M)) S))) :=
  readName_to hM hM1 hM2 hn hs hp hpn ha he (readName_tail_n (number_old (NT_I (by decide) hN) hz hq hi) h24 (by omega))
theorem readName_new {d n p M z : Nat} {S : cS} (hM : n ≤ 3000) (hM1 : 1 ≤ M) (hM2 : M ≤ 12) (hn : sI S 3102 = nI n) (hs : sI S 3104 = nI p) (hp : sI S 3103 = nI p) (hpn : p + M ≤ n) (ha : ∀ x, x < M → c_al S n (p + x)) (he : ¬ c_al S n (p + M)) (hN : c_NT S z) (hz : z < 4096) (h24 : 24 ≤ z) (hi : ∀ i, i < z → ¬ c_is S (c_nmH S p M) (c_nmL S p M) i) : ∃ b, Ans (d + 3) 42 [.ref 31] S none (wI 3105 (nI 3) (wI 3109 (nI z) (c_learn (wI 3103 (nI (p + M)) S) (c_nmH S p M) (c_nmL S p M) z b))) ∧ c_NT (wI 3105 (nI 3) (wI 3109 (nI z) (c_learn (wI 3103 (nI (p + M)) S) (c_nmH S p M) (c_nmL S p M) z b))) (z + 1) := by
  obtain ⟨b, h1, h2⟩ := number_new (d := d + 1) (S := wI 3103 (nI (p + M)) S) (hi := c_nmH S p M) (lo := c_nmL S p M) (NT_I (by decide) hN) hz hi
  exact ⟨b, readName_to hM hM1 hM2 hn hs hp hpn ha he (readName_tail_n h1 h24 hz), NT_I (by decide) (NT_I (by decide) h2)⟩
theorem wJ_comm {k q : Nat} (x y : Int64) (S : cS) (h : k ≠ q) : wJ k x (wJ q y S) = wJ q y (wJ k x S) := by
  have e : vp_updL (vp_updL (sJ S) q y) k x = vp_updL (vp_updL (sJ S) k x) q y := funext (fun i => by
    show (if i = k then x else if i = q then y else sJ S i) = (if i = q then y else if i = k then x else sJ S i)
    by_cases hi : i = k
    · rw [if_pos hi, if_neg (fun e => h (hi.symm.trans e)), if_pos hi]
    · rw [if_neg hi, if_neg hi])
  show (S.1, vp_updL (vp_updL (sJ S) q y) k x, S.2.2) = (S.1, vp_updL (vp_updL (sJ S) k x) q y, S.2.2)
  rw [e]
/-- a text under way: its value, the place -/
def c_tx (H Lo : Int64) (x : Int32) (S : cS) : cS := wI 3103 x (wJ 3111 H (wJ 3112 Lo S))
theorem c_tx_tx (H Lo H1 L1 : Int64) (x y : Int32) (S : cS) : c_tx H Lo x (c_tx H1 L1 y S) = c_tx H Lo x S := by
  unfold c_tx
  rw [wI_wJ 3103 3111 y H1, wI_wJ 3103 3112 y L1, wJ_comm (k := 3112) (q := 3111) Lo H1 _ (by decide), wJ_wJ, wJ_wJ, wI_wJ 3103 3111 x H, wI_wJ 3103 3112 x Lo, wI_wI, ← wI_wJ 3103 3112 x Lo S, ← wI_wJ 3103 3111 x H]
theorem c_tx_same {H Lo : Int64} {x : Int32} {S : cS} (h1 : sJ S 3111 = H) (h2 : sJ S 3112 = Lo) (h3 : sI S 3103 = x) : c_tx H Lo x S = S := by
  unfold c_tx
  rw [wJ_same h2, wJ_same h1, wI_same h3]
theorem c_byte_tx (H Lo : Int64) (x : Int32) (S : cS) (i : Nat) : c_byte (c_tx H Lo x S) i = c_byte S i := rfl
theorem c_b_tx (H Lo : Int64) (x : Int32) (S : cS) (n i : Nat) : c_b (c_tx H Lo x S) n i = c_b S n i := rfl
theorem c_nmH_tx (H Lo : Int64) (x : Int32) (S : cS) (p m : Nat) : c_nmH (c_tx H Lo x S) p m = c_nmH S p m := by
  unfold c_tx
  rw [c_nmH_I, c_nmH_J, c_nmH_J]
theorem c_nmL_tx (H Lo : Int64) (x : Int32) (S : cS) (p m : Nat) : c_nmL (c_tx H Lo x S) p m = c_nmL S p m := by
  unfold c_tx
  rw [c_nmL_I, c_nmL_J, c_nmL_J]
/-- byte i may stand in a text -/
def c_in (S : cS) (i : Nat) : Prop := c_byte S i ≠ 39 ∧ 32 ≤ c_byte S i ∧ c_byte S i ≤ 126
/-- M good bytes are read, then on -/
theorem readText_loop {d n p M : Nat} {v : Option Value} {Sf : cS} (hM : n ≤ 3000) (hM2 : M ≤ 15) : ∀ (r m : Nat) (S : cS), m + r = M → sI S 3102 = nI n → sI S 3103 = nI (p + m) → sJ S 3111 = c_nmH S p m → sJ S 3112 = c_nmL S p m → p + M ≤ n → (∀ x, m ≤ x → x < M → c_in S (p + x)) → Bod (d + 2) 46 31 [(1, .int (c_b S n (p + M))), (0, .ref 31)] [] (c_tx (c_nmH S p M) (c_nmL S p M) (nI (p + M)) S) v Sf → Bod (d + 2) 46 31 [(1, .int (c_b S n (p + m))), (0, .ref 31)] [] S v Sf := by
  intro r
  induction r with
  | zero =>
    intro m S hm hn hp h1 h2 hpn _ hB
    obtain rfl : m = M := by omega
    rw [c_tx_same h1 h2 hp] at hB
    exact hB
  | succ r ih =>
    intro m S hm hn hp h1 h2 hpn hd hB
    have hdm := hd m (Nat.le_refl _) (by omega)
    refine readText_next hM hn hp h1 h2 (by omega) (by omega) (c_nmH_len S p m (by omega)) hdm.1 hdm.2.1 hdm.2.2 ?_
    have h := ih (m + 1) (c_tx (c_nmH S p (m + 1)) (c_nmL S p (m + 1)) (nI (p + m + 1)) S) (by omega) hn (rIe _ _ _) (by rw [c_nmH_tx]; exact rJe _ _ _) (by rw [c_nmL_tx]; exact (rJn _ _ (by decide)).trans (rJe _ _ _)) hpn (fun x h3 h4 => hd x (by omega) h4) (by rw [c_tx_tx, c_nmH_tx, c_nmL_tx, c_b_tx]; exact hB)
    exact h
/-- a text from its first quote on, up to what stands behind its good bytes -/
theorem readText_to {d n p M : Nat} {S Sf : cS} {v : Option Value} (hM : n ≤ 3000) (hM2 : M ≤ 15) (hn : sI S 3102 = nI n) (hp : sI S 3103 = nI p) (hpn : p + 1 + M ≤ n) (hd : ∀ x, x < M → c_in S (p + 1 + x)) (hB : Bod (d + 2) 46 31 [(1, .int (c_b S n (p + 1 + M))), (0, .ref 31)] [] (c_tx (c_nmH S (p + 1) M) (c_nmL S (p + 1) M) (nI (p + 1 + M)) S) v Sf) : Ans (d + 3) 46 [.ref 31] S v Sf := by
  refine Ans.of (by rw [ml_46]; exact Nat.le_of_ble_eq_true rfl) ?_
  refine Bod.go dc_46_0 rfl ?_
  refine Bod.ldc2 dc_46_1 cj_46_83 ?_
  refine Bod.put dc_46_4 fr_46_110 (mk_31 _) (Nat.le_of_ble_eq_true rfl) pf_3_11 (st_3111 _ _) (mu_J _ _ _) ?_
  refine Bod.go dc_46_7 rfl ?_
  refine Bod.go dc_46_8 rfl ?_
  refine Bod.put dc_46_9 fr_46_113 (mk_31 _) (Nat.le_of_ble_eq_true rfl) pf_3_12 (st_3112 _ _) (mu_J _ _ _) ?_
  refine Bod.go dc_46_12 rfl ?_
  refine Bod.go dc_46_13 rfl ?_
  refine Bod.get dc_46_14 fr_46_23 (mk_31 _) rfl ?_
  refine Bod.eqI (nI p) (by first | (simp (disch := omega) only [rI, rIe, rA, rIA, rLA, rJA, rVI, rQI, rVA, rQA, upd_at,  rAI, rLI, rJI, nI_add, pk_sub, kc_0, kc_1, kc_2, kc_3, kc_4, kc_5, reduceIte, Nat.reduceEqDiff, Nat.add_zero, rI_hold, rI_hold, rL_hold, hn, hp]; done) | (simp (disch := omega) only [rI, rIe, rA, rIA, rLA, rJA, rVI, rQI, rVA, rQA, upd_at,  rAI, rLI, rJI, nI_add, pk_sub, kc_0, kc_1, kc_2, kc_3, kc_4, kc_5, reduceIte, Nat.reduceEqDiff, Nat.add_zero, rI_hold, rI_hold, rL_hold, hn, hp]; exact congrArg nI (by omega))) ?_
  refine Bod.ic 1 (by decide) dc_46_17 ?_
  refine Bod.addN (p + 1) (by omega) dc_46_18 ?_
  refine Bod.put dc_46_19 fr_46_23 (mk_31 _) (Nat.le_of_ble_eq_true rfl) pf_3_3 (st_3103 _ _) (mu_I _ _ _) ?_
  refine Bod.go dc_46_22 rfl ?_
  refine Bod.go dc_46_23 rfl ?_
  refine Bod.get dc_46_24 fr_46_23 (mk_31 _) rfl ?_
  refine Bod.eqI (nI (p + 1)) (by first | (simp (disch := omega) only [rI, rIe, rA, rIA, rLA, rJA, rVI, rQI, rVA, rQA, upd_at,  rAI, rLI, rJI, nI_add, pk_sub, kc_0, kc_1, kc_2, kc_3, kc_4, kc_5, reduceIte, Nat.reduceEqDiff, Nat.add_zero, rI_hold, rI_hold, rL_hold, hn, hp]; done) | (simp (disch := omega) only [rI, rIe, rA, rIA, rLA, rJA, rVI, rQI, rVA, rQA, upd_at,  rAI, rLI, rJI, nI_add, pk_sub, kc_0, kc_1, kc_2, kc_3, kc_4, kc_5, reduceIte, Nat.reduceEqDiff, Nat.add_zero, rI_hold, rI_hold, rL_hold, hn, hp]; exact congrArg nI (by omega))) ?_
  refine Bod.virt (r := []) dc_46_27 kr_46_50 ⟨Or.inl rfl, ow_38, cl_3⟩ (by rw [np_38]; rfl) (by rw [np_38]; rfl) (ob_of (mk_31 _)) (Nat.le_of_ble_eq_true rfl) (byteAt_b (n := n) (i := p + 1) (by first | (simp (disch := omega) only [rI, rIe, rA, rIA, rLA, rJA, rVI, rQI, rVA, rQA, upd_at,  rAI, rLI, rJI, nI_add, pk_sub, kc_0, kc_1, kc_2, kc_3, kc_4, kc_5, reduceIte, Nat.reduceEqDiff, Nat.add_zero, rI_hold, rI_hold, rL_hold, hn, hp]; done) | (simp (disch := omega) only [rI, rIe, rA, rIA, rLA, rJA, rVI, rQI, rVA, rQA, upd_at,  rAI, rLI, rJI, nI_add, pk_sub, kc_0, kc_1, kc_2, kc_3, kc_4, kc_5, reduceIte, Nat.reduceEqDiff, Nat.add_zero, rI_hold, rI_hold, rL_hold, hn, hp]; exact congrArg nI (by omega))) (by omega) (by omega)) ?_
  show Bod _ _ _ _ [_] _ _ _
  refine Bod.istn dc_46_30 (by rw [ml_46]; exact Nat.le_of_ble_eq_true rfl) ?_
  have e : wI 3103 (nI (p + 1)) (wJ 3112 0 (wJ 3111 ((3458764513820540928)) S)) = c_tx 3458764513820540928 0 (nI (p + 1)) S := by
    unfold c_tx
    rw [wJ_comm (k := 3112) (q := 3111) 0 _ _ (by decide)]
  refine Bod.eqS e ?_
  have h := readText_loop (d := d) (p := p + 1) (M := M) (v := v) (Sf := Sf) hM hM2 M 0 (c_tx 3458764513820540928 0 (nI (p + 1)) S) (by omega) hn (rIe _ _ _) rfl rfl hpn (fun x _ h4 => hd x h4) (by rw [c_tx_tx, c_nmH_tx, c_nmL_tx, c_b_tx]; exact hB)
  exact h
theorem readText_ev {d n p M : Nat} {S : cS} (hM : n ≤ 3000) (hM2 : M ≤ 15) (hn : sI S 3102 = nI n) (hp : sI S 3103 = nI p) (hpn : p + 1 + M < n) (hd : ∀ x, x < M → c_in S (p + 1 + x)) (hq : c_byte S (p + 1 + M) = 39) : Ans (d + 3) 46 [.ref 31] S none (wI 3105 (nI 5) (wI 3103 (nI (p + 1 + M + 1)) (c_tx (c_nmH S (p + 1) M) (c_nmL S (p + 1) M) (nI (p + 1 + M)) S))) :=
  readText_to hM hM2 hn hp (by omega) hd (readText_quote (S := c_tx (c_nmH S (p + 1) M) (c_nmL S (p + 1) M) (nI (p + 1 + M)) S) (p := p + 1) (m := M) hM hn (rIe _ _ _) hpn hq)
theorem readText_fail_end {d n p M : Nat} {S : cS} (hM : n ≤ 3000) (hM2 : M ≤ 15) (hn : sI S 3102 = nI n) (hp : sI S 3103 = nI p) (hpn : n = p + 1 + M) (hd : ∀ x, x < M → c_in S (p + 1 + x)) : Ans (d + 3) 46 [.ref 31] S none (c_fail (c_tx (c_nmH S (p + 1) M) (c_nmL S (p + 1) M) (nI (p + 1 + M)) S)) :=
  readText_to hM hM2 hn hp (by omega) hd (readText_end (S := c_tx (c_nmH S (p + 1) M) (c_nmL S (p + 1) M) (nI (p + 1 + M)) S) (p := p + 1) (m := M) hM hn (rIe _ _ _) hpn)
theorem readText_fail_bad {d n p M : Nat} {S : cS} (hM : n ≤ 3000) (hM2 : M ≤ 15) (hn : sI S 3102 = nI n) (hp : sI S 3103 = nI p) (hpn : p + 1 + M < n) (hd : ∀ x, x < M → c_in S (p + 1 + x)) (hq : c_byte S (p + 1 + M) < 32 ∨ 126 < c_byte S (p + 1 + M)) : Ans (d + 3) 46 [.ref 31] S none (c_fail (c_tx (c_nmH S (p + 1) M) (c_nmL S (p + 1) M) (nI (p + 1 + M)) S)) :=
  readText_to hM hM2 hn hp (by omega) hd (readText_bad (S := c_tx (c_nmH S (p + 1) M) (c_nmL S (p + 1) M) (nI (p + 1 + M)) S) (p := p + 1) (m := M) hM hn (rIe _ _ _) hpn hq)
theorem readText_fail_long {d n p : Nat} {S : cS} (hM : n ≤ 3000) (hn : sI S 3102 = nI n) (hp : sI S 3103 = nI p) (hpn : p + 1 + 15 < n) (hd : ∀ x, x < 16 → c_in S (p + 1 + x)) : Ans (d + 3) 46 [.ref 31] S none (c_fail (c_tx (c_nmH S (p + 1) 15) (c_nmL S (p + 1) 15) (nI (p + 1 + 15)) S)) :=
  readText_to hM (Nat.le_refl _) hn hp (by omega) (fun x h => hd x (by omega)) (readText_long (hi := c_nmH S (p + 1) 15) (S := c_tx (c_nmH S (p + 1) 15) (c_nmL S (p + 1) 15) (nI (p + 1 + 15)) S) (p := p + 1) (m := 15) hM hn (rIe _ _ _) (rJe _ _ _) (c_nmH_len S (p + 1) 15 (Nat.le_refl _)) hpn (hd 15 (by omega)).1 (hd 15 (by omega)).2.1 (hd 15 (by omega)).2.2)
