/-! THE CLASS'S HEAP: a row grows (copied into a longer one); growRow in all its ways -/
theorem dc_185_98 : decode (sm_cc 185) 98 = .ok (.aload_n 0, 1) := by decide +kernel
theorem dc_185_99 : decode (sm_cc 185) 99 = .ok (.getfield 38, 3) := by decide +kernel
theorem dc_185_102 : decode (sm_cc 185) 102 = .ok (.iload_n 1, 1) := by decide +kernel
theorem dc_185_103 : decode (sm_cc 185) 103 = .ok (.aaload, 1) := by decide +kernel
theorem dc_185_104 : decode (sm_cc 185) 104 = .ok (.iload 4, 2) := by decide +kernel
theorem dc_185_106 : decode (sm_cc 185) 106 = .ok (.invokestatic 115, 3) := by decide +kernel
theorem kr_185_115 : sm_at mt_k (sm_ow 185) 115 = some (115, 2, 186, 0, 1595) := by decide +kernel
theorem mk_newL_at (N : Nat) (f : Nat → Int64) (S : cS) : (mk (newL N f S))[108 + (sS S).length]? = some (.inl (1, N, .inr (.inl f))) := by
  have h := mk_row (S := newL N f S) (a := 108 + (sS S).length) (N := N) (Nat.le_add_right _ _) (new_at (S0 := S) rfl)
  rw [h]
  have e : sL (newL N f S) (108 + (sS S).length) = f := if_pos rfl
  rw [e]
theorem growRow_cp64 {d : Nat} {S : cS} {k a N q : Nat} (h0 : 1 ≤ k) (hk : k ≤ 1500) (hl : 17 ≤ q) (hq : q ≤ 64) (hr : sQ S 11 k = some a) (ha : 108 ≤ a) (hs : (sS S)[a - 108]? = some (1, N)) (hN0 : 1 ≤ N) (hN : N < q) (hNM : N < 64) : Ans (d + 3) 185 [.ref 2, .int (nI k), .int (nI q)] S none (wQ 11 k (some (108 + (sS S).length)) (newL 64 (cpL (sL S a) N) S)) := by
  refine Ans.of (by rw [ml_185]; exact Nat.le_of_ble_eq_true rfl) ?_
  refine Bod.go dc_185_0 rfl ?_
  refine Bod.stat (r := []) dc_185_1 kr_185_65 (Or.inl rfl) (by rw [np_139]; rfl) (by rw [np_139]; rfl) (by rw [np_139]; exact Nat.le_of_ble_eq_true rfl) (Nat.le_of_ble_eq_true rfl) (isId_T (k := k) (by omega) (by omega)) ?_
  show Bod _ _ _ _ [_] _ _ _
  refine Bod.ifF dc_185_4 rfl (k1_eq_F (k_ne 1 0 rfl rfl (by omega) (by omega) (by omega))) ?_
  refine Bod.go dc_185_7 rfl ?_
  refine Bod.sip 600 (by decide) dc_185_8 ?_
  refine Bod.icT dc_185_11 rfl (k2_le_T q 600 rfl rfl (by omega) (by omega)) ?_
  refine Bod.go dc_185_15 rfl ?_
  refine Bod.get dc_185_16 fr_185_38 (mk_2 _) rfl ?_
  refine Bod.go dc_185_19 rfl ?_
  refine Bod.aaldR (N := 1501) (b := a) k rfl (by omega) (by omega) hr dc_185_20 (mk_11 _) ht_4 ?_
  refine Bod.go dc_185_21 rfl ?_
  refine Bod.go dc_185_28 rfl ?_
  refine Bod.get dc_185_29 fr_185_38 (mk_2 _) rfl ?_
  refine Bod.go dc_185_32 rfl ?_
  refine Bod.aaldR (N := 1501) (b := a) k rfl (by omega) (by omega) hr dc_185_33 (mk_11 _) ht_4 ?_
  refine Bod.alenN (N := N) dc_185_34 (mk_row ha hs) el_1 ?_
  refine Bod.istn dc_185_35 (by rw [ml_185]; exact Nat.le_of_ble_eq_true rfl) ?_
  refine Bod.go dc_185_36 rfl ?_
  refine Bod.go dc_185_37 rfl ?_
  refine Bod.icT dc_185_38 rfl (k2_gt_T q N rfl rfl (by omega) (by omega)) ?_
  refine Bod.go dc_185_42 rfl ?_
  refine Bod.bip 16 (by decide) dc_185_43 ?_
  refine Bod.icT dc_185_45 rfl (k2_gt_T q 16 rfl rfl (by omega) (by omega)) ?_
  refine Bod.go dc_185_53 rfl ?_
  refine Bod.bip 64 (by decide) dc_185_54 ?_
  refine Bod.icF dc_185_56 rfl (k2_gt_F q 64 rfl rfl (by omega) (by omega)) ?_
  refine Bod.bip 64 (by decide) dc_185_59 ?_
  refine Bod.go dc_185_61 rfl ?_
  refine Bod.ist dc_185_80 (by rw [ml_185]; exact Nat.le_of_ble_eq_true rfl) ?_
  refine Bod.go dc_185_82 rfl ?_
  refine Bod.get dc_185_83 fr_185_38 (mk_2 _) rfl ?_
  refine Bod.go dc_185_86 rfl ?_
  refine Bod.go dc_185_87 rfl ?_
  refine Bod.ifT dc_185_88 rfl (k1_ne_T (k_ne N 0 rfl rfl (by omega) (by omega) (by omega))) ?_
  refine Bod.go dc_185_98 rfl ?_
  refine Bod.get dc_185_99 fr_185_38 (mk_2 _) rfl ?_
  refine Bod.go dc_185_102 rfl ?_
  refine Bod.aaldR (N := 1501) (b := a) k rfl (by omega) (by omega) hr dc_185_103 (mk_11 _) ht_4 ?_
  refine Bod.go dc_185_104 rfl ?_
  refine Bod.stat (r := [_, _]) dc_185_106 kr_185_115 (Or.inl rfl) (by rw [np_186]; rfl) (by rw [np_186]; rfl) (by rw [np_186]; exact Nat.le_of_ble_eq_true rfl) (Nat.le_of_ble_eq_true rfl) (copyOfL (d := d) (Or.inr ⟨ha, hs⟩) (by omega) (by omega)) ?_
  show Bod _ _ _ _ [_, _, _] _ _ _
  refine Bod.aastR k rfl (by omega) (by omega) dc_185_109 (mk_11 _) (mk_newL_at _ _ _) ht4_row (sa_11 _ _ _) (mu_Q _ _ _ _) ?_
  exact Bod.retV dc_185_110 rt_185
theorem growRow_cp240 {d : Nat} {S : cS} {k a N q : Nat} (h0 : 1 ≤ k) (hk : k ≤ 1500) (hl : 65 ≤ q) (hq : q ≤ 240) (hr : sQ S 11 k = some a) (ha : 108 ≤ a) (hs : (sS S)[a - 108]? = some (1, N)) (hN0 : 1 ≤ N) (hN : N < q) (hNM : N < 240) : Ans (d + 3) 185 [.ref 2, .int (nI k), .int (nI q)] S none (wQ 11 k (some (108 + (sS S).length)) (newL 240 (cpL (sL S a) N) S)) := by
  refine Ans.of (by rw [ml_185]; exact Nat.le_of_ble_eq_true rfl) ?_
  refine Bod.go dc_185_0 rfl ?_
  refine Bod.stat (r := []) dc_185_1 kr_185_65 (Or.inl rfl) (by rw [np_139]; rfl) (by rw [np_139]; rfl) (by rw [np_139]; exact Nat.le_of_ble_eq_true rfl) (Nat.le_of_ble_eq_true rfl) (isId_T (k := k) (by omega) (by omega)) ?_
  show Bod _ _ _ _ [_] _ _ _
  refine Bod.ifF dc_185_4 rfl (k1_eq_F (k_ne 1 0 rfl rfl (by omega) (by omega) (by omega))) ?_
  refine Bod.go dc_185_7 rfl ?_
  refine Bod.sip 600 (by decide) dc_185_8 ?_
  refine Bod.icT dc_185_11 rfl (k2_le_T q 600 rfl rfl (by omega) (by omega)) ?_
  refine Bod.go dc_185_15 rfl ?_
  refine Bod.get dc_185_16 fr_185_38 (mk_2 _) rfl ?_
  refine Bod.go dc_185_19 rfl ?_
  refine Bod.aaldR (N := 1501) (b := a) k rfl (by omega) (by omega) hr dc_185_20 (mk_11 _) ht_4 ?_
  refine Bod.go dc_185_21 rfl ?_
  refine Bod.go dc_185_28 rfl ?_
  refine Bod.get dc_185_29 fr_185_38 (mk_2 _) rfl ?_
  refine Bod.go dc_185_32 rfl ?_
  refine Bod.aaldR (N := 1501) (b := a) k rfl (by omega) (by omega) hr dc_185_33 (mk_11 _) ht_4 ?_
  refine Bod.alenN (N := N) dc_185_34 (mk_row ha hs) el_1 ?_
  refine Bod.istn dc_185_35 (by rw [ml_185]; exact Nat.le_of_ble_eq_true rfl) ?_
  refine Bod.go dc_185_36 rfl ?_
  refine Bod.go dc_185_37 rfl ?_
  refine Bod.icT dc_185_38 rfl (k2_gt_T q N rfl rfl (by omega) (by omega)) ?_
  refine Bod.go dc_185_42 rfl ?_
  refine Bod.bip 16 (by decide) dc_185_43 ?_
  refine Bod.icT dc_185_45 rfl (k2_gt_T q 16 rfl rfl (by omega) (by omega)) ?_
  refine Bod.go dc_185_53 rfl ?_
  refine Bod.bip 64 (by decide) dc_185_54 ?_
  refine Bod.icT dc_185_56 rfl (k2_gt_T q 64 rfl rfl (by omega) (by omega)) ?_
  refine Bod.go dc_185_64 rfl ?_
  refine Bod.sip 240 (by decide) dc_185_65 ?_
  refine Bod.icF dc_185_68 rfl (k2_gt_F q 240 rfl rfl (by omega) (by omega)) ?_
  refine Bod.sip 240 (by decide) dc_185_71 ?_
  refine Bod.go dc_185_74 rfl ?_
  refine Bod.ist dc_185_80 (by rw [ml_185]; exact Nat.le_of_ble_eq_true rfl) ?_
  refine Bod.go dc_185_82 rfl ?_
  refine Bod.get dc_185_83 fr_185_38 (mk_2 _) rfl ?_
  refine Bod.go dc_185_86 rfl ?_
  refine Bod.go dc_185_87 rfl ?_
  refine Bod.ifT dc_185_88 rfl (k1_ne_T (k_ne N 0 rfl rfl (by omega) (by omega) (by omega))) ?_
  refine Bod.go dc_185_98 rfl ?_
  refine Bod.get dc_185_99 fr_185_38 (mk_2 _) rfl ?_
  refine Bod.go dc_185_102 rfl ?_
  refine Bod.aaldR (N := 1501) (b := a) k rfl (by omega) (by omega) hr dc_185_103 (mk_11 _) ht_4 ?_
  refine Bod.go dc_185_104 rfl ?_
  refine Bod.stat (r := [_, _]) dc_185_106 kr_185_115 (Or.inl rfl) (by rw [np_186]; rfl) (by rw [np_186]; rfl) (by rw [np_186]; exact Nat.le_of_ble_eq_true rfl) (Nat.le_of_ble_eq_true rfl) (copyOfL (d := d) (Or.inr ⟨ha, hs⟩) (by omega) (by omega)) ?_
  show Bod _ _ _ _ [_, _, _] _ _ _
  refine Bod.aastR k rfl (by omega) (by omega) dc_185_109 (mk_11 _) (mk_newL_at _ _ _) ht4_row (sa_11 _ _ _) (mu_Q _ _ _ _) ?_
  exact Bod.retV dc_185_110 rt_185
theorem growRow_cp600 {d : Nat} {S : cS} {k a N q : Nat} (h0 : 1 ≤ k) (hk : k ≤ 1500) (hl : 241 ≤ q) (hq : q ≤ 600) (hr : sQ S 11 k = some a) (ha : 108 ≤ a) (hs : (sS S)[a - 108]? = some (1, N)) (hN0 : 1 ≤ N) (hN : N < q) (hNM : N < 600) : Ans (d + 3) 185 [.ref 2, .int (nI k), .int (nI q)] S none (wQ 11 k (some (108 + (sS S).length)) (newL 600 (cpL (sL S a) N) S)) := by
  refine Ans.of (by rw [ml_185]; exact Nat.le_of_ble_eq_true rfl) ?_
  refine Bod.go dc_185_0 rfl ?_
  refine Bod.stat (r := []) dc_185_1 kr_185_65 (Or.inl rfl) (by rw [np_139]; rfl) (by rw [np_139]; rfl) (by rw [np_139]; exact Nat.le_of_ble_eq_true rfl) (Nat.le_of_ble_eq_true rfl) (isId_T (k := k) (by omega) (by omega)) ?_
  show Bod _ _ _ _ [_] _ _ _
  refine Bod.ifF dc_185_4 rfl (k1_eq_F (k_ne 1 0 rfl rfl (by omega) (by omega) (by omega))) ?_
  refine Bod.go dc_185_7 rfl ?_
  refine Bod.sip 600 (by decide) dc_185_8 ?_
  refine Bod.icT dc_185_11 rfl (k2_le_T q 600 rfl rfl (by omega) (by omega)) ?_
  refine Bod.go dc_185_15 rfl ?_
  refine Bod.get dc_185_16 fr_185_38 (mk_2 _) rfl ?_
  refine Bod.go dc_185_19 rfl ?_
  refine Bod.aaldR (N := 1501) (b := a) k rfl (by omega) (by omega) hr dc_185_20 (mk_11 _) ht_4 ?_
  refine Bod.go dc_185_21 rfl ?_
  refine Bod.go dc_185_28 rfl ?_
  refine Bod.get dc_185_29 fr_185_38 (mk_2 _) rfl ?_
  refine Bod.go dc_185_32 rfl ?_
  refine Bod.aaldR (N := 1501) (b := a) k rfl (by omega) (by omega) hr dc_185_33 (mk_11 _) ht_4 ?_
  refine Bod.alenN (N := N) dc_185_34 (mk_row ha hs) el_1 ?_
  refine Bod.istn dc_185_35 (by rw [ml_185]; exact Nat.le_of_ble_eq_true rfl) ?_
  refine Bod.go dc_185_36 rfl ?_
  refine Bod.go dc_185_37 rfl ?_
  refine Bod.icT dc_185_38 rfl (k2_gt_T q N rfl rfl (by omega) (by omega)) ?_
  refine Bod.go dc_185_42 rfl ?_
  refine Bod.bip 16 (by decide) dc_185_43 ?_
  refine Bod.icT dc_185_45 rfl (k2_gt_T q 16 rfl rfl (by omega) (by omega)) ?_
  refine Bod.go dc_185_53 rfl ?_
  refine Bod.bip 64 (by decide) dc_185_54 ?_
  refine Bod.icT dc_185_56 rfl (k2_gt_T q 64 rfl rfl (by omega) (by omega)) ?_
  refine Bod.go dc_185_64 rfl ?_
  refine Bod.sip 240 (by decide) dc_185_65 ?_
  refine Bod.icT dc_185_68 rfl (k2_gt_T q 240 rfl rfl (by omega) (by omega)) ?_
  refine Bod.sip 600 (by decide) dc_185_77 ?_
  refine Bod.ist dc_185_80 (by rw [ml_185]; exact Nat.le_of_ble_eq_true rfl) ?_
  refine Bod.go dc_185_82 rfl ?_
  refine Bod.get dc_185_83 fr_185_38 (mk_2 _) rfl ?_
  refine Bod.go dc_185_86 rfl ?_
  refine Bod.go dc_185_87 rfl ?_
  refine Bod.ifT dc_185_88 rfl (k1_ne_T (k_ne N 0 rfl rfl (by omega) (by omega) (by omega))) ?_
  refine Bod.go dc_185_98 rfl ?_
  refine Bod.get dc_185_99 fr_185_38 (mk_2 _) rfl ?_
  refine Bod.go dc_185_102 rfl ?_
  refine Bod.aaldR (N := 1501) (b := a) k rfl (by omega) (by omega) hr dc_185_103 (mk_11 _) ht_4 ?_
  refine Bod.go dc_185_104 rfl ?_
  refine Bod.stat (r := [_, _]) dc_185_106 kr_185_115 (Or.inl rfl) (by rw [np_186]; rfl) (by rw [np_186]; rfl) (by rw [np_186]; exact Nat.le_of_ble_eq_true rfl) (Nat.le_of_ble_eq_true rfl) (copyOfL (d := d) (Or.inr ⟨ha, hs⟩) (by omega) (by omega)) ?_
  show Bod _ _ _ _ [_, _, _] _ _ _
  refine Bod.aastR k rfl (by omega) (by omega) dc_185_109 (mk_11 _) (mk_newL_at _ _ _) ht4_row (sa_11 _ _ _) (mu_Q _ _ _ _) ?_
  exact Bod.retV dc_185_110 rt_185
/-- what rows cost in all, by their length -/
def rcst (N : Nat) : Nat := if N = 0 then 0 else if N ≤ 16 then 16 else if N ≤ 64 then 80 else if N ≤ 240 then 320 else 920
def rcel (N : Nat) : Nat := if N = 0 then 0 else if N ≤ 16 then 1 else if N ≤ 64 then 2 else if N ≤ 240 then 3 else 4
def rlen (S : cS) (k : Nat) : Nat := match sQ S 11 k with
  | none => 0
  | some a => ((sS S)[a - 108]?.getD (0, 0)).2
def rwC (S : cS) : Nat := sumN (fun k => rcst (rlen S k)) 1501
def rwN (S : cS) : Nat := sumN (fun k => rcel (rlen S k)) 1501
/-- the length that a row grows to -/
def lgr (q : Nat) : Nat := if q ≤ 16 then 16 else if q ≤ 64 then 64 else if q ≤ 240 then 240 else 600
theorem lgr_le {q : Nat} (h : q ≤ 600) : q ≤ lgr q ∧ lgr q ≤ 600 ∧ 16 ≤ lgr q := by
  unfold lgr
  split
  · omega
  · split
    · omega
    · split <;> omega
theorem rcst_gr {N q : Nat} (hN : N = 0 ∨ N = 16 ∨ N = 64 ∨ N = 240 ∨ N = 600) (h : N < q) (hq : q ≤ 600) : rcst N + lgr q ≤ rcst (lgr q) ∧ rcel N + 1 ≤ rcel (lgr q) := by
  unfold lgr
  rcases hN with e | e | e | e | e
  · subst e
    split
    · decide
    · split
      · decide
      · split <;> decide
  · subst e
    rw [if_neg (by omega)]
    split
    · decide
    · split <;> decide
  · subst e
    rw [if_neg (by omega), if_neg (by omega)]
    split <;> decide
  · subst e
    rw [if_neg (by omega), if_neg (by omega), if_neg (by omega)]
    decide
  · omega
/-- a row in a longer one: all else stays -/
def grS (S W : cS) (k : Nat) (q : Nat) : Prop := W = S ∧ (∃ a, sQ S 11 k = some a) ∧ q ≤ rlen S k ∨ (rlen S k < q ∧ ∃ f : Nat → Int64, W = wQ 11 k (some (108 + (sS S).length)) (newL (lgr q) f S) ∧ ∀ i, i < rlen S k → f i = sL S (h_row S k) i)
/-- rows have one of these lengths -/
def rwL (S : cS) : Prop := ∀ k a, k ≤ 1500 → sQ S 11 k = some a → 108 ≤ a ∧ ∃ N, (sS S)[a - 108]? = some (1, N) ∧ (N = 16 ∨ N = 64 ∨ N = 240 ∨ N = 600)
theorem rlen_e {S : cS} {k a N : Nat} (h : sQ S 11 k = some a) (hs : (sS S)[a - 108]? = some (1, N)) : rlen S k = N := by
  unfold rlen
  rw [h]
  show ((sS S)[a - 108]?.getD (0, 0)).2 = N
  rw [hs]
  rfl
theorem grow_T {d : Nat} {S : cS} {k q : Nat} (h1 : 1 ≤ k) (hk : k ≤ 1500) (hq1 : 1 ≤ q) (hq : q ≤ 600) (hR : rwL S) : ∃ W, Ans (d + 3) 185 [.ref 2, .int (nI k), .int (nI q)] S none W ∧ grS S W k q := by
  cases hr : sQ S 11 k with
  | none =>
    have h0 : rlen S k = 0 := by unfold rlen; rw [hr]
    have hz : ∀ (f : Nat → Int64) i, i < rlen S k → f i = sL S (h_row S k) i := fun f i hi => by rw [h0] at hi; exact absurd hi (Nat.not_lt_zero _)
    by_cases c1 : q ≤ 16
    · exact ⟨_, growRow_new16 (d := d + 1) h1 hk hq1 c1 hr, Or.inr ⟨by omega, fun _ => 0, by unfold lgr newL; rw [if_pos c1], hz _⟩⟩
    by_cases c2 : q ≤ 64
    · exact ⟨_, growRow_new64 (d := d + 1) h1 hk (by omega) c2 hr, Or.inr ⟨by omega, fun _ => 0, by unfold lgr newL; rw [if_neg c1, if_pos c2], hz _⟩⟩
    by_cases c3 : q ≤ 240
    · exact ⟨_, growRow_new240 (d := d + 1) h1 hk (by omega) c3 hr, Or.inr ⟨by omega, fun _ => 0, by unfold lgr newL; rw [if_neg c1, if_neg c2, if_pos c3], hz _⟩⟩
    · exact ⟨_, growRow_new600 (d := d + 1) h1 hk (by omega) hq hr, Or.inr ⟨by omega, fun _ => 0, by unfold lgr newL; rw [if_neg c1, if_neg c2, if_neg c3], hz _⟩⟩
  | some a =>
    obtain ⟨ha, N, hs, hN⟩ := hR k a hk hr
    have hl := rlen_e hr hs
    by_cases hf : q ≤ N
    · exact ⟨S, growRow_fit (d := d + 1) h1 hk hq hr ha hs (by omega) hf, Or.inl ⟨rfl, ⟨a, hr⟩, by omega⟩⟩
    · have hrow : h_row S k = a := by unfold h_row; rw [hr]; rfl
      have hc : ∀ i, i < rlen S k → cpL (sL S a) N i = sL S (h_row S k) i := fun i hi => by rw [hrow]; exact cpL_at (by omega)
      by_cases c2 : q ≤ 64
      · exact ⟨_, growRow_cp64 h1 hk (by omega) c2 hr ha hs (by omega) (by omega) (by omega), Or.inr ⟨by omega, _, by unfold lgr; rw [if_neg (by omega), if_pos c2], hc⟩⟩
      by_cases c3 : q ≤ 240
      · exact ⟨_, growRow_cp240 h1 hk (by omega) c3 hr ha hs (by omega) (by omega) (by omega), Or.inr ⟨by omega, _, by unfold lgr; rw [if_neg (by omega), if_neg c2, if_pos c3], hc⟩⟩
      · exact ⟨_, growRow_cp600 h1 hk (by omega) hq hr ha hs (by omega) (by omega) (by omega), Or.inr ⟨by omega, _, by unfold lgr; rw [if_neg (by omega), if_neg c2, if_neg c3], hc⟩⟩
