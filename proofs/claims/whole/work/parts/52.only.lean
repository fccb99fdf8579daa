/-! A LONE NAME that is new -/
theorem learn_I (S : cS) (hi lo : Int64) (z b : Nat) {i : Nat} (h : i ≠ 1607) : sI (c_learn S hi lo z b) i = sI S i := by
  unfold c_learn
  rw [rAI, rIn _ _ h, rAI, rLI, rLI]
/-- a new name, alone -/
theorem name_new {d n z : Nat} {S : cS} (h2 : n ≤ 12) (hM1 : 1 ≤ n) (ha : ∀ x, x < n → c_al S n x) (hl : c_let (c_byte S 0) = true) (hN : c_NT S z) (hz : z < 4096) (h24 : 24 ≤ z) (hi : ∀ i, i < z → ¬ c_is S (c_nmH S 0 n) (c_nmL S 0 n) i) : ∃ S2, Ans (d + 4) 279 [.ref 31, .int (nI n)] S (some (.int (nI z))) S2 ∧ c_NT S2 (z + 1) ∧ ∃ b, S2 = wI 3105 (nI 3) (wI 3109 (nI z) (c_learn (wI 3103 (nI (0 + n)) (c_only n S)) (c_nmH S 0 n) (c_nmL S 0 n) z b)) := by
  obtain ⟨b, h3, h4⟩ := readName_new (d := d) (n := n) (p := 0) (M := n) (z := z) (S := c_only n S) (by omega) hM1 (by omega) (only_n n S) (only_s n S) (only_p n S) (by omega) (fun x hx => by rw [Nat.zero_add, only_al]; exact ha x hx) (by rw [Nat.zero_add, only_al]; exact fun h => by have := h.1; omega) (only_NT hN) hz h24 (by rw [only_nmH, only_nmL]; exact fun i h5 => (not_congr only_is).mpr (hi i h5))
  rw [only_nmH, only_nmL] at h3 h4
  refine ⟨_, onlyName_yes (by omega) h2 rfl (c_byte_eq S 0).2 hl h3 (rIe _ _ _) ?_ ?_ ((rIn _ _ (by decide)).trans (rIe _ _ _)), h4, b, rfl⟩
  · rw [rIn _ _ (by decide), rIn _ _ (by decide), learn_I _ _ _ _ _ (by decide), rIe, Nat.zero_add]
  · rw [rIn _ _ (by decide), rIn _ _ (by decide), learn_I _ _ _ _ _ (by decide), rIn _ _ (by decide)]
    exact only_n n S
/-- a new name, and more behind it -/
theorem name_newp {d n M z : Nat} {S : cS} (h2 : n ≤ 12) (hM1 : 1 ≤ M) (hMn : M < n) (ha : ∀ x, x < M → c_al S n x) (he : ¬ c_al S n M) (hl : c_let (c_byte S 0) = true) (hN : c_NT S z) (hz : z < 4096) (h24 : 24 ≤ z) (hi : ∀ i, i < z → ¬ c_is S (c_nmH S 0 M) (c_nmL S 0 M) i) : ∃ S2, Ans (d + 4) 279 [.ref 31, .int (nI n)] S (some (.int (Int32.ofInt (-1)))) S2 ∧ c_NT S2 (z + 1) ∧ ∃ b, S2 = wI 3105 (nI 3) (wI 3109 (nI z) (c_learn (wI 3103 (nI (0 + M)) (c_only n S)) (c_nmH S 0 M) (c_nmL S 0 M) z b)) := by
  obtain ⟨b, h3, h4⟩ := readName_new (d := d) (n := n) (p := 0) (M := M) (z := z) (S := c_only n S) (by omega) hM1 (by omega) (only_n n S) (only_s n S) (only_p n S) (by omega) (fun x hx => by rw [Nat.zero_add, only_al]; exact ha x hx) (by rw [Nat.zero_add, only_al]; exact he) (only_NT hN) hz h24 (by rw [only_nmH, only_nmL]; exact fun i h5 => (not_congr only_is).mpr (hi i h5))
  rw [only_nmH, only_nmL] at h3 h4
  refine ⟨_, onlyName_part (q := M) (by omega) h2 rfl (c_byte_eq S 0).2 hl h3 (rIe _ _ _) ?_ ?_ (by omega), h4, b, rfl⟩
  · rw [rIn _ _ (by decide), rIn _ _ (by decide), learn_I _ _ _ _ _ (by decide), rIe, Nat.zero_add]
  · rw [rIn _ _ (by decide), rIn _ _ (by decide), learn_I _ _ _ _ _ (by decide), rIn _ _ (by decide)]
    exact only_n n S
