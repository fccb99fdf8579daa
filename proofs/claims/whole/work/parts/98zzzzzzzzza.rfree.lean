/-! THE REFERENCE'S MACHINE: a free place (365) -/
section
variable {d : Nat}
theorem free_L : ∀ (q i u : Nat) (S : cS), i + q = 1500 → u < 1500 → sI S 6147 = nI u → (∀ k, k < 1500 → ∃ e, e < 2 ^ 20 ∧ sA S 87 k = nI e) → ∃ W x, FrL [6147] [] [] S W ∧ (∃ u', u' < 1500 ∧ sI W 6147 = nI u') ∧ ((x = Int32.ofInt (-1) ∧ ∀ j, 1 ≤ j → j ≤ q → sA S 87 ((u + j) % 1500) ≠ 0) ∨ ∃ k, k < 1500 ∧ x = nI k ∧ sA S 87 k = 0) ∧ ∀ lv : sm_L, sm_get lv 0 = some (.ref 61) → sm_get lv 1 = some (.int (nI i)) → Bod (d + 8) 365 2 lv [] S (some (.int x)) W := by
  intro q
  induction q with
  | zero =>
    intro i u S hi hu hI _
    exact ⟨S, _, FrL.refl _ _ _ _, ⟨u, hu, hI⟩, Or.inl ⟨rfl, fun j h1 h2 => by omega⟩, fun lv q0 q1 => rFrL_1 q0 q1 (by omega) (by omega)⟩
  | succ q ih =>
    intro i u S hi hu hI he
    have hk : (u + 1) % 1500 < 1500 := Nat.mod_lt _ (by omega)
    obtain ⟨e, e1, e2⟩ := he _ hk
    by_cases hc : sA S 87 ((u + 1) % 1500) = 0
    · exact ⟨wI 6147 (nI ((u + 1) % 1500)) S, _, FrL_wI (by decide) (FrL.refl _ _ _ _), ⟨_, hk, rIe _ _ _⟩, Or.inr ⟨_, hk, rfl, hc⟩, fun lv q0 q1 => rFrL_3 (e87 := e) q0 q1 (by omega) (by omega) hI (by omega) hk e2 e1 (k1_ne_F hc)⟩
    · obtain ⟨W, x, b1, b2, b3, b4⟩ := ih (i + 1) ((u + 1) % 1500) (wI 6147 (nI ((u + 1) % 1500)) S) (by omega) hk (rIe _ _ _) he
      refine ⟨W, x, (FrL_wI (by decide) (FrL.refl _ _ _ _)).trans b1, b2, b3.imp (fun h => ⟨h.1, fun j h1 h2 => ?_⟩) id, fun lv q0 q1 => rFrL_2 (e87 := e) q0 q1 (by omega) (by omega) hI (by omega) hk e2 e1 (k1_ne_T hc) b4⟩
      by_cases hj : j = 1
      · rw [hj]; exact hc
      · have := h.2 (j - 1) (by omega) (by omega)
        have em : ((u + 1) % 1500 + (j - 1)) % 1500 = (u + j) % 1500 := by omega
        rw [em] at this
        exact this
/-- a place that is free, if there is one -/
theorem free_T {u : Nat} {S : cS} (hu : u < 1500) (hI : sI S 6147 = nI u) (he : ∀ k, k < 1500 → ∃ e, e < 2 ^ 20 ∧ sA S 87 k = nI e) : ∃ W x, Ans (d + 9) 365 [.ref 61] S (some (.int x)) W ∧ FrL [6147] [] [] S W ∧ (∃ u', u' < 1500 ∧ sI W 6147 = nI u') ∧ ((x = Int32.ofInt (-1) ∧ ∀ k, k < 1500 → sA S 87 k ≠ 0) ∨ ∃ k, k < 1500 ∧ x = nI k ∧ sA S 87 k = 0) := by
  obtain ⟨W, x, b1, b2, b3, b4⟩ := free_L (d := d) 1500 0 u S rfl hu hI he
  refine ⟨W, x, Ans.of (by rw [ml_365]; exact Nat.le_of_ble_eq_true rfl) (Bod.lv (by rfl) (rFr_1 (fun lv1 q0 q1 => b4 lv1 q0 q1))), b1, b2, b3.imp (fun h => ⟨h.1, fun k hk => ?_⟩) id⟩
  by_cases c : u < k
  · have := h.2 (k - u) (by omega) (by omega)
    have em : (u + (k - u)) % 1500 = k := by omega
    rw [em] at this
    exact this
  · have := h.2 (1500 - u + k) (by omega) (by omega)
    have em : (u + (1500 - u + k)) % 1500 = k := by omega
    rw [em] at this
    exact this
end
