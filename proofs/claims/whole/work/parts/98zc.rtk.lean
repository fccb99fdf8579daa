/-! WHAT THE REFERENCE'S PARSER ASKS of a token, by the row's kinds -/
theorem rsg_inj : ∀ k, k < 40 → 6 ≤ k → ∀ K, K ≤ 29 → 6 ≤ K → rsg k = rsg K → k = K := by decide +kernel
theorem rsg_lt : ∀ k, k < 40 → rsg k < 20000 := by decide +kernel
theorem rkd_5 {k : Nat} : rkd k = 5 ↔ 6 ≤ k ∧ k < 40 := by
  unfold rkd
  repeat' split
  all_goals omega
theorem rkd_2 {k : Nat} : rkd k = 2 ↔ 40 ≤ k := by
  unfold rkd
  repeat' split
  all_goals omega
theorem rkd_1 {k : Nat} : rkd k = 1 ↔ k = 3 := by
  unfold rkd
  repeat' split
  all_goals omega
theorem rkd_lt (k : Nat) : rkd k < 9 := by
  unfold rkd
  repeat' split
  all_goals omega
theorem beq_no {a b : Nat} (h : a ≠ b) : Nat.beq a b = false := by
  cases e : Nat.beq a b with
  | false => rfl
  | true => exact absurd (Nat.beq_eq.mp e) h
theorem beq_yes {a b : Nat} (h : a = b) : Nat.beq a b = true := Nat.beq_eq.mpr h
section
variable {own0 : Nat → Nat × Nat} {d m u k w t : Nat} {S0 S : cS} {β : Nat → Nat} {n g0 g1 nn j K : Nat}
theorem rE_A (h : rE own0 m u S0 k w t S) : sA S 67 = sA S0 67 ∧ sA S 68 = sA S0 68 ∧ sA S 69 = sA S0 69 ∧ sL S 71 = sL S0 71 ∧ sL S 72 = sL S0 72 := by
  obtain ⟨h1, h2⟩ := rE_fix h
  exact ⟨(h2 67 (by omega) (by omega) (by omega) (by omega)).1, (h2 68 (by omega) (by omega) (by omega) (by omega)).1, (h2 69 (by omega) (by omega) (by omega) (by omega)).1, (h2 71 (by omega) (by omega) (by omega) (by omega)).2, (h2 72 (by omega) (by omega) (by omega) (by omega)).2⟩
theorem is_sg (h : rE own0 m u S0 k w t S) (hT : rTk β n S0 g0 g1 nn j) (ha : sI S 6115 = nI j) (hj : j < 6002) (hK : 6 ≤ K ∧ K ≤ 29) : Ans (d + 1) 314 [.ref 61, .int (nI (rsg K))] S (some (.int (bI (Nat.beq (qK β n j) K)))) S := by
  obtain ⟨e67, e68, e69, _⟩ := rE_A h
  obtain ⟨t1, t2, t3, t4, t5, t6, t7, t8, t9, t10⟩ := hT
  have hkd : sA S 67 j = nI (rkd (qK β n j)) := by rw [e67]; exact t1
  have hlt := rkd_lt (qK β n j)
  have hsl := rsg_lt K (by omega)
  by_cases h5 : 6 ≤ qK β n j ∧ qK β n j < 40
  · have hvl : sA S 68 j = nI (rsg (qK β n j)) := by rw [e68]; exact t6 h5
    have hvM := rsg_lt (qK β n j) h5.2
    by_cases he : qK β n j = K
    · rw [beq_yes he]
      exact rsign_T ha hj hkd (by omega) hvl (by omega) hsl (rkd_5.mpr h5) (by rw [he])
    · rw [beq_no he]
      exact rsign_F ha hj hkd (by omega) hvl (by omega) hsl (rkd_5.mpr h5) (fun e => he (rsg_inj _ h5.2 h5.1 _ hK.2 hK.1 e))
  · rw [beq_no (show qK β n j ≠ K by omega)]
    exact rsign_no ha hj hkd (by omega) hsl (fun e => h5 (rkd_5.mp e))
theorem is_wd {q : Nat} (h : rE own0 m u S0 k w t S) (hT : rTk β n S0 g0 g1 nn j) (ha : sI S 6115 = nI j) (hj : j < 6002) (hq : q < 24) : Ans (d + 1) 309 [.ref 61, .int (nI q)] S (some (.int (bI (Nat.beq (qK β n j) (40 + q))))) S := by
  obtain ⟨e67, e68, e69, _⟩ := rE_A h
  obtain ⟨t1, t2, t3, t4, t5, t6, t7, t8, t9, t10⟩ := hT
  have hkd : sA S 67 j = nI (rkd (qK β n j)) := by rw [e67]; exact t1
  have hlt := rkd_lt (qK β n j)
  have hM := (q_lt β n j).2.2.2.2
  by_cases h2 : 40 ≤ qK β n j
  · have hvl : sA S 68 j = nI (qK β n j - 40) := by rw [e68]; exact t5 h2
    by_cases he : qK β n j = 40 + q
    · rw [beq_yes he]
      exact rword_T ha hj hkd (by omega) hvl (by omega) (by omega) (rkd_2.mpr h2) (by omega)
    · rw [beq_no he]
      exact rword_F ha hj hkd (by omega) hvl (by omega) (by omega) (rkd_2.mpr h2) (by omega)
  · rw [beq_no (show qK β n j ≠ 40 + q by omega)]
    exact rword_no ha hj hkd (by omega) (by omega) (fun e => h2 (rkd_2.mp e))
/-- the line of a fault at token j -/
def fl (β : Nat → Nat) (n j : Nat) : Nat := if 1 < qL β n j then qL β n j else 1
theorem bad_T (h : rE own0 m u S0 k w t S) (hT : rTk β n S0 g0 g1 nn j) (hn : n ≤ 3000) (ha : sI S 6115 = nI j) (hj : j < 6002) (hf : sI S 6116 = nI 0) : Ans (d + 2) 299 [.ref 61] S (some (.int 0)) (wI 6116 (nI (fl β n j)) S) := by
  obtain ⟨e67, e68, e69, _⟩ := rE_A h
  have hl : sA S 69 j = nI (qL β n j) := by rw [e69]; exact hT.2.1
  have hM := (q_lt β n j).2.2.1
  unfold fl
  by_cases h1 : 1 < qL β n j
  · rw [if_pos h1]
    exact rbad_1 ha hj hf hl (by omega) h1
  · rw [if_neg h1]
    exact rbad_0 ha hj hf hl (by omega) (by omega)
theorem take_T (h : rE own0 m u S0 k w t S) (hT : rTk β n S0 g0 g1 nn j) (ha : sI S 6115 = nI j) (hj : j < 6002) (hK : 6 ≤ K ∧ K ≤ 29) (hk : qK β n j = K) : Ans (d + 3) 323 [.ref 61, .int (nI (rsg K))] S (some (.int 1)) (wI 6115 (nI (j + 1)) S) := by
  have h1 := is_sg (d := d + 1) h hT ha hj hK
  rw [beq_yes hk] at h1
  exact rtake_T ha hj h1
theorem take_F (h : rE own0 m u S0 k w t S) (hT : rTk β n S0 g0 g1 nn j) (hn : n ≤ 3000) (ha : sI S 6115 = nI j) (hj : j < 6002) (hf : sI S 6116 = nI 0) (hK : 6 ≤ K ∧ K ≤ 29) (hk : qK β n j ≠ K) : Ans (d + 3) 323 [.ref 61, .int (nI (rsg K))] S (some (.int 0)) (wI 6116 (nI (fl β n j)) S) := by
  have h1 := is_sg (d := d + 1) h hT ha hj hK
  rw [beq_no hk] at h1
  exact rtake_F h1 (bad_T h hT hn ha hj hf)
end
