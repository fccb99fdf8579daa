/-! LENGTHS OF TOKENS; what a text has left from a token on -/
theorem w_len : ∀ q, q < 24 → ∀ t, w_tx[q]? = some t → 2 ≤ tx_n t ∧ (q = 6 → tx_n t = 3) := by decide +kernel
theorem tk_len2 {β : Nat → Nat} {n p : Nat} (h : 22 ≤ (tk β n p).1) : p + 2 ≤ (tk β n p).2 ∧ ((tk β n p).1 = 46 → (tk β n p).2 = p + 3 ∧ p ≤ n ∧ tk_nmN β n p = 3) := by
  unfold tk at h ⊢
  by_cases h0 : n ≤ p ∨ β p = 10 ∨ β p = 35
  · rw [if_pos h0] at h; dsimp only at h; omega
  rw [if_neg h0] at h ⊢
  by_cases hL : c_let (β p) = true
  · rw [if_pos hL] at h ⊢
    by_cases h12 : 12 < tk_nmN β n p
    · rw [if_pos h12] at h; dsimp only at h; omega
    rw [if_neg h12] at h ⊢
    by_cases hw : tk_word (fun i => β (p + i)) (tk_nmN β n p) < 24
    · rw [if_pos hw]
      rcases tk_word_ok (fun i => β (p + i)) (tk_nmN β n p) with ⟨_, t, h1, h2⟩ | ⟨h1, _⟩
      · obtain ⟨l1, l2⟩ := w_len _ hw t h1
        have h3 := h2.1
        refine ⟨by dsimp only; omega, fun h4 => ?_⟩
        have h5 := l2 (by dsimp only at h4; omega)
        exact ⟨by dsimp only; omega, by omega, by omega⟩
      · omega
    · rw [if_neg hw] at h; dsimp only at h; omega
  rw [if_neg hL] at h ⊢
  by_cases hD : c_dig (β p) = true
  · rw [if_pos hD] at h
    split at h <;> (dsimp only at h; omega)
  rw [if_neg hD] at h ⊢
  by_cases h39 : β p = 39
  · rw [if_pos h39] at h
    split at h <;> (dsimp only at h; omega)
  rw [if_neg h39] at h ⊢
  by_cases hs0 : tk_sg (β p) (tk_at β n (p + 1)) = 0
  · rw [if_pos hs0] at h; dsimp only at h; omega
  rw [if_neg hs0] at h ⊢
  by_cases hs : 22 ≤ tk_sg (β p) (tk_at β n (p + 1))
  · rw [if_pos hs]
    refine ⟨Nat.le_refl _, fun h4 => ?_⟩
    have h5 := tk_sg_r (β p) (tk_at β n (p + 1))
    dsimp only at h4
    omega
  · rw [if_neg hs] at h
    dsimp only at h
    omega
theorem q_w2 {β : Nat → Nat} {n k : Nat} (h : 22 ≤ qK β n k) : qP β n k + 2 ≤ qP β n (k + 1) := by
  obtain ⟨p1, p2, p3, p4⟩ := q_parts (β := β) (n := n) (k := k) (by omega)
  have h1 := tk_len2 (β := β) (n := n) (p := qP β n k) (by rw [← p1]; exact h)
  rw [← p1] at h1
  have h2 := q_mono1 β n k
  have h3 := h1.1
  dsimp only at h3
  omega
theorem q_def {β : Nat → Nat} {n k : Nat} (h : qK β n k = 46) (h3 : qK β n (k + 1) = 3) : qP β n k + 4 ≤ qP β n (k + 1) := by
  obtain ⟨p1, p2, p3, p4⟩ := q_parts (β := β) (n := n) (k := k) (by omega)
  have h1 := tk_len2 (β := β) (n := n) (p := qP β n k) (by rw [← p1]; dsimp only; omega)
  rw [← p1] at h1
  obtain ⟨e1, e2, e3⟩ := h1.2 h
  dsimp only at e1
  have h2 := q_mono1 β n k
  obtain ⟨r1, r2, r3, r4⟩ := q_parts (β := β) (n := n) (k := k + 1) (by omega)
  rcases Nat.lt_or_ge (qP β n k + 3) (qP β n (k + 1)) with h4 | h4
  · omega
  · exfalso
    have h5 : qP β n (k + 1) = qP β n k + 3 := by omega
    have h6 := t_run_end (P := tk_al) (β := β) p2
    have h7 : t_run tk_al β n (n - qP β n k) (qP β n k) = 3 := e3
    rw [h7, ← h5] at h6
    have h8 : (tk β n (qP β n (k + 1))).1 = 3 := by rw [← r1]; exact h3
    unfold tk at h8
    by_cases h0 : n ≤ qP β n (k + 1) ∨ β (qP β n (k + 1)) = 10 ∨ β (qP β n (k + 1)) = 35
    · rw [if_pos h0] at h8; dsimp only at h8; omega
    rw [if_neg h0] at h8
    have h9 : tk_al (β (qP β n (k + 1))) = false := by
      rcases h6.2.2 with h9 | h9
      · exact absurd (Or.inl (by omega)) h0
      · exact h9
    have hl : c_let (β (qP β n (k + 1))) = false := by
      unfold tk_al at h9
      cases hc : c_let (β (qP β n (k + 1))) with
      | false => rfl
      | true => rw [hc] at h9; exact absurd h9 (by simp)
    have hd : c_dig (β (qP β n (k + 1))) = false := by
      unfold tk_al at h9
      rw [hl] at h9
      exact h9
    rw [if_neg (by rw [hl]; decide), if_neg (by rw [hd]; decide)] at h8
    by_cases h39 : β (qP β n (k + 1)) = 39
    · rw [if_pos h39] at h8
      split at h8 <;> (dsimp only at h8; omega)
    rw [if_neg h39] at h8
    by_cases hs0 : tk_sg (β (qP β n (k + 1))) (tk_at β n (qP β n (k + 1) + 1)) = 0
    · rw [if_pos hs0] at h8; dsimp only at h8; omega
    rw [if_neg hs0] at h8
    have h10 := tk_sg_r (β (qP β n (k + 1))) (tk_at β n (qP β n (k + 1) + 1))
    split at h8 <;> dsimp only at h8 <;> omega
theorem tl_ind {β : Nat → Nat} {n : Nat} : ∀ (f p l q l2 i : Nat), p ≤ n → tl β n f p l = some (q, l2, i) → p + i ≤ q := by
  intro f
  induction f with
  | zero => intro p l q l2 i _ h; cases h
  | succ f ih =>
    intro p l q l2 i hp h
    obtain ⟨s1, s2, s3, s4⟩ := skip_at (β := β) hp
    unfold tl at h
    split at h
    · cases h
    · split at h
      · split at h
        · rename_i h2 h3
          obtain ⟨e1, e2, e3, e4⟩ := tk_eol_ok (β := β) s2
          have h4 := ih _ _ _ _ _ (by omega) h
          omega
        · cases h
      · injection h with h
        injection h with h3 h4
        injection h4 with h4 h5
        omega
theorem ln_ind {β : Nat → Nat} {n p l last : Nat} (hp : p ≤ n) : (tq_ln β n p l last).1 = 1 ∨ p + (tq_ln β n p l last).2.2.2.2 ≤ (tq_ln β n p l last).2.1 := by
  unfold tq_ln
  cases h : tl β n (n + 1) p l with
  | none => exact Or.inl rfl
  | some x =>
    obtain ⟨q, l2, i⟩ := x
    exact Or.inr (tl_ind _ _ _ _ _ _ hp h)
theorem q_nl {β : Nat → Nat} {n j : Nat} (h : qK β n j = 2) : qK β n (j + 1) = 1 ∨ qP β n j + 1 + qI β n (j + 1) ≤ qP β n (j + 1) := by
  have hw := tq_ok β n j
  have h2 : (tq β n j).1 = 2 := h
  unfold qK qP qI
  show (tq_nx β n (tq β n j)).1 = 1 ∨ (tq β n j).2.1 + 1 + (tq_nx β n (tq β n j)).2.2.2.2 ≤ (tq_nx β n (tq β n j)).2.1
  unfold tq_nx
  rw [if_neg (by omega), if_pos h2]
  split
  · rename_i h3
    obtain ⟨e1, e2, e3, e4⟩ := tk_eol_ok (β := β) hw.1
    rcases ln_ind (β := β) (n := n) (p := tk_eol β n (tq β n j).2.1 + 1) (l := (tq β n j).2.2.2.1 + 1) (last := (tq β n j).2.2.2.1) (by omega) with h4 | h4
    · exact Or.inl h4
    · right; omega
  · exact Or.inl rfl
theorem q_ind (β : Nat → Nat) (n k : Nat) : qI β n k ≤ qP β n k := by
  induction k with
  | zero =>
    rcases ln_ind (β := β) (n := n) (p := 0) (l := 1) (last := 0) (Nat.zero_le _) with h | h
    · unfold qI qP
      show (tq_ln β n 0 1 0).2.2.2.2 ≤ (tq_ln β n 0 1 0).2.1
      unfold tq_ln at h ⊢
      cases h2 : tl β n (n + 1) 0 1 with
      | none => exact Nat.zero_le _
      | some x => rw [h2] at h; exact absurd h tk_kind.1
    · unfold qI qP
      show (tq_ln β n 0 1 0).2.2.2.2 ≤ (tq_ln β n 0 1 0).2.1
      omega
  | succ k ih =>
    by_cases h1 : qK β n k = 1
    · have e : tq β n (k + 1) = tq β n k := by
        show tq_nx β n (tq β n k) = _
        unfold tq_nx
        exact if_pos h1
      unfold qI qP
      rw [e]
      exact ih
    by_cases h2 : qK β n k = 2
    · rcases q_nl h2 with h3 | h3
      · have hw := tq_ok β n (k + 1)
        have e1 := hw.2.2.2.2.2.1 h3
        have e2 := hw.2.2.2.2.1
        unfold qI qP
        omega
      · omega
    · obtain ⟨n1, n2, n3, n4⟩ := q_next h1 h2
      have := q_mono1 β n k
      have hw := tq_ok β n k
      have : qP β n k ≤ qE β n k := hw.2.1
      rw [n3]
      omega
/-- what is left from the line of token k on, from token k on -/
def rem (β : Nat → Nat) (n k : Nat) : Nat := if qK β n k = 1 then 0 else n + 1 - (qP β n k - qI β n k)
def rm (β : Nat → Nat) (n k : Nat) : Nat := n + 1 - qP β n k
theorem rem_rm {β : Nat → Nat} {n k : Nat} (h : qK β n k ≠ 1) : rem β n k = rm β n k + qI β n k := by
  unfold rem rm
  rw [if_neg h]
  have := q_ind β n k
  have := (q_lt β n k).1
  omega
theorem rem_1 {β : Nat → Nat} {n k : Nat} (h : qK β n k = 1) : rem β n k = 0 := by
  unfold rem
  rw [if_pos h]
theorem rm_gt {β : Nat → Nat} {n k : Nat} (h : 3 ≤ qK β n k) : rm β n (k + 1) + 1 ≤ rm β n k ∧ qI β n (k + 1) = qI β n k ∧ qL β n (k + 1) = qL β n k ∧ qK β n (k + 1) ≠ 1 := by
  obtain ⟨g1, g2, g3, g4, g5, g6⟩ := q_gt h
  have := (q_lt β n (k + 1)).1
  unfold rm
  exact ⟨by omega, g6, g5, g4⟩
theorem rm_w2 {β : Nat → Nat} {n k : Nat} (h : 22 ≤ qK β n k) : rm β n (k + 1) + 2 ≤ rm β n k := by
  have h1 := q_w2 h
  have := (q_lt β n (k + 1)).1
  unfold rm
  omega
theorem rm_def {β : Nat → Nat} {n k : Nat} (h : qK β n k = 46) (h3 : qK β n (k + 1) = 3) : rm β n (k + 1) + 4 ≤ rm β n k := by
  have h1 := q_def h h3
  have := (q_lt β n (k + 1)).1
  unfold rm
  omega
theorem rm_nl {β : Nat → Nat} {n j : Nat} (h : qK β n j = 2) : rem β n (j + 1) + 1 ≤ rm β n j := by
  have h3 := (q_lt β n j).1
  have h4 := (q_lt β n (j + 1)).1
  by_cases h1 : qK β n (j + 1) = 1
  · rw [rem_1 h1]
    unfold rm
    omega
  · rcases q_nl h with h2 | h2
    · exact absurd h2 h1
    · rw [rem_rm h1]
      unfold rm
      omega
theorem rm_run {β : Nat → Nat} {n k k1 : Nat} (hk : k ≤ k1) (h : ∀ j, k ≤ j → j < k1 → 3 ≤ qK β n j) : rm β n k1 + (k1 - k) ≤ rm β n k ∧ qL β n k1 = qL β n k ∧ qI β n k1 = qI β n k ∧ (k < k1 → qK β n k1 ≠ 1) := by
  obtain ⟨a1, a2, a3, a4⟩ := q_run hk h
  have := (q_lt β n k1).1
  unfold rm
  exact ⟨by omega, a2, a3, a4⟩
