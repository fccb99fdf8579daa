/-! THE REFERENCE'S MACHINE: a value more in a thing -/
section
variable {d r t v2 v3 v4 v5 v6 v7 n m q w z : Nat} {S : cS} {kd : Int32} {xa xb : Int64}
/-- a thing in longer arrays of values: the same values -/
theorem grT_V (h : tRef S r t v2 v3 v4 v5 v6 v7 n m) (hnw : n < w) (hw : w < 2 ^ 20) : tRef (grT t 2 4 5 w n v2 v4 v5 S) r t (108 + (sS S).length) v3 (108 + (sS S).length + 1) (108 + (sS S).length + 2) v6 v7 w m := by
  obtain ⟨h1, h2, ⟨N, h3⟩, h4, h5, h6, h7, h8, h9, k1, k2, k3, k4, k5, k6, hn, hm, hr⟩ := h
  have l1 : (sS (grI (100 * t + 2) 0 w v2 n S)).length = (sS S).length + 1 := by rw [grI_S, List.length_append]; rfl
  have l2 : (sS (grL (100 * t + 4) w v4 n (grI (100 * t + 2) 0 w v2 n S))).length = (sS S).length + 2 := by rw [grL_S, List.length_append, l1]; rfl
  unfold grT
  refine ⟨by rw [grL_Q, grL_Q, grI_Q]; exact h1, h2, ⟨N, ?_⟩, ?_, ?_, ?_, ?_, ?_, ?_, ?_, ?_, ?_, ?_, ?_, ?_, hw, hm, by omega, by omega, by omega, by omega, by omega, by omega⟩
  · exact sS_old (grL_S _ _ _ _ _) (sS_old (grL_S _ _ _ _ _) (sS_old (grI_S _ _ _ _ _ _) h3))
  · rw [grL_V, if_neg (by omega), grL_V, if_neg (by omega), grI_V, if_pos rfl]
  · rw [grL_V, if_neg (by omega), grL_V, if_neg (by omega), grI_V, if_neg (by omega)]; exact h5
  · rw [grL_V, if_neg (by omega), grL_V, if_pos rfl, l1]; rfl
  · rw [grL_V, if_pos rfl, l2]; rfl
  · rw [grL_V, if_neg (by omega), grL_V, if_neg (by omega), grI_V, if_neg (by omega)]; exact h8
  · rw [grL_V, if_neg (by omega), grL_V, if_neg (by omega), grI_V, if_neg (by omega)]; exact h9
  · exact grL_o (grL_o grI_k)
  · exact grL_o (grL_o (grI_o k2))
  · have := grL_o (id := 100 * t + 5) (n := w) (g := v5) (N := n) (grL_k (id := 100 * t + 4) (n := w) (g := v4) (N := n) (S := grI (100 * t + 2) 0 w v2 n S))
    rw [l1] at this
    exact this
  · have := grL_k (id := 100 * t + 5) (n := w) (g := v5) (N := n) (S := grL (100 * t + 4) w v4 n (grI (100 * t + 2) 0 w v2 n S))
    rw [l2] at this
    exact this
  · exact grL_o (grL_o (grI_o k5))
  · exact grL_o (grL_o (grI_o k6))
theorem grT_vals (h : tRef S r t v2 v3 v4 v5 v6 v7 n m) : (∀ i, i < n → sA (grT t 2 4 5 w n v2 v4 v5 S) (108 + (sS S).length) i = sA S v2 i) ∧ (∀ i, i < n → sL (grT t 2 4 5 w n v2 v4 v5 S) (108 + (sS S).length + 1) i = sL S v4 i) ∧ (∀ i, i < n → sL (grT t 2 4 5 w n v2 v4 v5 S) (108 + (sS S).length + 2) i = sL S v5 i) ∧ (∀ a, a < 108 + (sS S).length → sA (grT t 2 4 5 w n v2 v4 v5 S) a = sA S a ∧ sL (grT t 2 4 5 w n v2 v4 v5 S) a = sL S a) ∧ sI (grT t 2 4 5 w n v2 v4 v5 S) = sI S := by
  obtain ⟨h1, h2, ⟨N, h3⟩, h4, h5, h6, h7, h8, h9, k1, k2, k3, k4, k5, k6, hn, hm, hr⟩ := h
  have l1 : (sS (grI (100 * t + 2) 0 w v2 n S)).length = (sS S).length + 1 := by rw [grI_S, List.length_append]; rfl
  have l2 : (sS (grL (100 * t + 4) w v4 n (grI (100 * t + 2) 0 w v2 n S))).length = (sS S).length + 2 := by rw [grL_S, List.length_append, l1]; rfl
  have b4 := isK_lt k3
  have b5 := isK_lt k4
  unfold grT
  refine ⟨fun i hi => ?_, fun i hi => ?_, fun i hi => ?_, fun a ha => ⟨?_, ?_⟩, by rw [grL_I, grL_I, grI_I]⟩
  · rw [grL_A, grL_A, grI_A, if_pos rfl]
    exact cpI_at hi
  · rw [grL_L, if_neg (by rw [l2]; omega), grL_L, if_pos (by rw [l1]; rfl), grI_L]
    exact cpL_at hi
  · rw [grL_L, if_pos (by rw [l2]; rfl), grL_L, if_neg (by rw [l1]; omega), grI_L]
    exact cpL_at hi
  · rw [grL_A, grL_A, grI_A, if_neg (by omega)]
  · rw [grL_L, if_neg (by rw [l2]; omega), grL_L, if_neg (by rw [l1]; omega), grI_L]
end
