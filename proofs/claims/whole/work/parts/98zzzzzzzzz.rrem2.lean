/-! THE REFERENCE'S MACHINE: remove, whole -/
section
variable {d r t v2 v3 v4 v5 v6 v7 n m z : Nat} {S : cS}
theorem remQ_app {S1 W : cS} {i : Nat} (hd : dsV v2 v3 v4 v5 v6 v7) (hi : i < z) (h : remQ S S1 v2 v3 v4 v5 v6 v7 m i (i + 1)) (g : remQ S1 W v2 v3 v4 v5 v6 v7 m (i + 1) z) : remQ S W v2 v3 v4 v5 v6 v7 m i z := by
  obtain ⟨a1, a2, a3, a4, a5, a6, a7, a8, a9, a10, a11, a12, a13, a14⟩ := h
  obtain ⟨b1, b2, b3, b4, b5, b6, b7, b8, b9, b10, b11, b12, b13, b14⟩ := g
  refine ⟨fun q => ?_, fun q => ?_, fun q => ?_, fun q => ?_, fun q => ?_, fun q => ?_, fun a h1 h2 => (b7 a h1 h2).trans (a7 a h1 h2), fun a h1 h2 h3 h4 => (b8 a h1 h2 h3 h4).trans (a8 a h1 h2 h3 h4), b9.trans a9, b10.trans a10, b11.trans a11, b12.trans a12, b13.trans a13, b14.trans a14⟩
  · rw [b1]
    by_cases c : i + 1 ≤ q ∧ q < z
    · rw [if_pos c, a1, if_neg (by omega), if_pos (by omega)]
    · rw [if_neg c, a1]
      by_cases c2 : q = i
      · rw [if_pos (by omega), if_pos (by omega)]
      · rw [if_neg (by omega), if_neg (by omega)]
  · rw [b2]
    by_cases c : i + 1 ≤ q ∧ q < z
    · rw [if_pos c, a2, if_neg (by omega), if_pos (by omega)]
    · rw [if_neg c, a2]
      by_cases c2 : q = i
      · rw [if_pos (by omega), if_pos (by omega)]
      · rw [if_neg (by omega), if_neg (by omega)]
  · rw [b3]
    by_cases c : i + 1 ≤ q ∧ q < z
    · rw [if_pos c, a3, if_neg (by omega), if_pos (by omega)]
    · rw [if_neg c, a3]
      by_cases c2 : q = i
      · rw [if_pos (by omega), if_pos (by omega)]
      · rw [if_neg (by omega), if_neg (by omega)]
  · rw [b4]
    by_cases c : i + 1 ≤ q ∧ q < z ∧ q + 1 < m
    · rw [if_pos c, a4, if_neg (by omega), if_pos (by omega)]
    · rw [if_neg c, a4]
      by_cases c2 : q = i ∧ q + 1 < m
      · rw [if_pos (by omega), if_pos (by omega)]
      · rw [if_neg (by omega), if_neg (by omega)]
  · rw [b5]
    by_cases c : i + 1 ≤ q ∧ q < z ∧ q + 1 < m
    · rw [if_pos c, a5, if_neg (by omega), if_pos (by omega)]
    · rw [if_neg c, a5]
      by_cases c2 : q = i ∧ q + 1 < m
      · rw [if_pos (by omega), if_pos (by omega)]
      · rw [if_neg (by omega), if_neg (by omega)]
  · rw [b6]
    by_cases c : i + 1 ≤ q ∧ q < z ∧ q + 1 < m
    · rw [if_pos c, a6, if_neg (by omega), if_pos (by omega)]
    · rw [if_neg c, a6]
      by_cases c2 : q = i ∧ q + 1 < m
      · rw [if_pos (by omega), if_pos (by omega)]
      · rw [if_neg (by omega), if_neg (by omega)]
theorem rem_L (hd : dsV v2 v3 v4 v5 v6 v7) (hzn : z < n) : ∀ (q i : Nat) (S : cS), i + q = z → tRef S r t v2 v3 v4 v5 v6 v7 n m → sI S (100 * t + 1) = nI z → (∀ j, j ≤ z → ∃ e, e < 2 ^ 20 ∧ sA S v2 j = nI e) → (∀ j, j < m → ∃ e, e < 2 ^ 20 ∧ sA S v3 j = nI e) → ∃ W, tRef W r t v2 v3 v4 v5 v6 v7 n m ∧ remQ S W v2 v3 v4 v5 v6 v7 m i z ∧ ∀ lv : sm_L, sm_get lv 0 = some (.ref t) → sm_get lv 2 = some (.int (nI i)) → Bod (d + 10) 418 12 lv [] S none W := by
  intro q
  induction q with
  | zero =>
    intro i S hi h hz _ _
    obtain rfl : i = z := by omega
    refine ⟨S, h, remQ_refl, fun lv q0 q2 => ?_⟩
    obtain ⟨h1, h2, ⟨N, h3⟩, h4, h5, h6, h7, h8, h9, k1, k2, k3, k4, k5, k6, hn, hm, hr⟩ := h
    exact rReL_1 (d := d + 2) (zg := N) q0 q2 (by omega) h2 h3 hz (by omega) (Nat.le_refl _)
  | succ q ih =>
    intro i S hi h hz hv hk
    obtain ⟨S1, a1, a2, a3⟩ := rem_turn (d := d) h hd hz hzn (show i < z by omega) (hv (i + 1) (by omega)) (fun hc => hk (i + 1) hc)
    obtain ⟨W, b1, b2, b3⟩ := ih (i + 1) S1 (by omega) a1 (by rw [a2.2.2.2.2.2.2.2.2.1]; exact hz) (fun j hj => by
      rw [a2.1]
      by_cases c : i ≤ j ∧ j < i + 1
      · rw [if_pos c]; exact hv (j + 1) (by omega)
      · rw [if_neg c]; exact hv j hj) (fun j hj => by
      rw [a2.2.2.2.1]
      by_cases c : i ≤ j ∧ j < i + 1 ∧ j + 1 < m
      · rw [if_pos c]; exact hk (j + 1) (by omega)
      · rw [if_neg c]; exact hk j hj)
    exact ⟨W, b1, remQ_app hd (by omega) a2 b2, fun lv q0 q2 => a3 lv none W b3 q0 q2⟩
/-- remove: what was behind comes one place ahead -/
theorem rremove_T {a0 : Nat} (h : tRef S r t v2 v3 v4 v5 v6 v7 n m) (hd : dsV v2 v3 v4 v5 v6 v7) (hz : sI S (100 * t + 1) = nI (z + 1)) (hzn : z < n) (ha : a0 ≤ z) (hv : ∀ j, j ≤ z → ∃ e, e < 2 ^ 20 ∧ sA S v2 j = nI e) (hk : ∀ j, j < m → ∃ e, e < 2 ^ 20 ∧ sA S v3 j = nI e) : ∃ W, Ans (d + 11) 418 [.ref t, .int (nI a0)] S none W ∧ tRef W r t v2 v3 v4 v5 v6 v7 n m ∧ remQ (wI (100 * t + 1) (nI z) S) W v2 v3 v4 v5 v6 v7 m a0 z := by
  have h' : tRef (wI (100 * t + 1) (nI z) S) r t v2 v3 v4 v5 v6 v7 n m := h
  obtain ⟨W, b1, b2, b3⟩ := rem_L (d := d) hd hzn (z - a0) a0 (wI (100 * t + 1) (nI z) S) (by omega) h' (if_pos rfl) hv hk
  obtain ⟨h1, h2, ⟨N, h3⟩, h4, h5, h6, h7, h8, h9, k1, k2, k3, k4, k5, k6, hn, hm, hr⟩ := h
  exact ⟨W, Ans.of (by rw [ml_418]; exact Nat.le_of_ble_eq_true rfl) (Bod.lv (by rfl) (rRe_1 (d := d + 2) (zg := N) (by omega) h2 h3 hz (by omega) (by omega) b3)), b1, b2⟩
end
