/-! What is answered without a look at the script is answered with it; more steps, deeper calls: the same answer -/
theorem sm_rd_none {X : Option (Nat × (Nat → Int32))} {o : Nat} {i : Instr} {st : List Value} {σ : sm_H} {r : Nat × List Value} (h : sm_rd none o i st σ = some r) : sm_rd X o i st σ = some r := by
  unfold sm_rd at h
  split at h
  all_goals first
    | (cases h; done)
    | (refine Eq.trans ?_ h; rfl)
    | (split at h
       · cases h
       · rename_i hq
         unfold sm_rd
         dsimp only
         rw [if_neg hq]
         exact h)
    | (split at h <;> cases h)
theorem sm_rd_else {X : Option (Nat × (Nat → Int32))} {o : Nat} {i : Instr} {st : List Value} {σ : sm_H} (h : sm_rd none o i st σ = none) : sm_rd X o i st σ = none ∨ i = .arraylength ∨ i = .iaload := by
  by_cases h1 : i = .arraylength
  · exact Or.inr (Or.inl h1)
  by_cases h2 : i = .iaload
  · exact Or.inr (Or.inr h2)
  refine Or.inl ?_
  rw [← h]
  unfold sm_rd
  split
  all_goals first
    | rfl
    | exact absurd rfl h1
    | exact absurd rfl h2
theorem sm_do_none {X : Option (Nat × (Nat → Int32))} {j : Nat} {i : Instr} {n pc : Nat} {lv : sm_L} {st : List Value} {σ : sm_H} {u : Nat} {r : sm_O} (h : sm_do none j i n pc lv st σ u = some r) : sm_do X j i n pc lv st σ u = some r := by
  cases hq : sm_rd none (sm_ow j) i st σ with
  | some q =>
    have h1 := sm_rd_none (X := X) hq
    unfold sm_do at h ⊢
    rw [hq] at h
    rw [h1]
    exact h
  | none =>
    rcases sm_rd_else (X := X) hq with h1 | h1 | h1
    · unfold sm_do at h ⊢
      rw [hq] at h
      rw [h1]
      exact h
    · subst h1
      unfold sm_do at h
      rw [hq] at h
      cases h
    · subst h1
      unfold sm_do at h
      rw [hq] at h
      cases h
theorem sm_step_none {X : Option (Nat × (Nat → Int32))} {j : Nat} {K : sm_K} {r : sm_O} (h : sm_step none j K = some r) : sm_step X j K = some r := by
  unfold sm_step at h ⊢
  split at h
  · exact sm_do_none h
  · cases h
/-- more steps, and calls that answer at least as much: the same answer -/
theorem sm_run_up {X : Option (Nat × (Nat → Int32))} {c1 c2 : Nat → List Value → sm_H → Nat → Option sm_R} {j : Nat} (hc : ∀ j1 as σ u r, c1 j1 as σ u = some r → c2 j1 as σ u = some r) (hX : ∀ K r, sm_step none j K = some r → sm_step X j K = some r) : ∀ (n m : Nat) (K : sm_K) (r : sm_R), n ≤ m → sm_run none c1 j n K = some r → sm_run X c2 j m K = some r := by
  intro n
  induction n with
  | zero => intro m K r _ h; cases h
  | succ n ih =>
    intro m K r hm h
    obtain ⟨m, rfl⟩ : ∃ k, m = k + 1 := ⟨m - 1, by omega⟩
    unfold sm_run at h ⊢
    split at h
    · cases h
    · rename_i K1 hs
      rw [hX _ _ hs]
      exact ih m K1 r (by omega) h
    · rename_i j1 as pc lv st σ u hs
      rw [hX _ _ hs]
      split at h
      · cases h
      · rename_i v h1 u1 hcl
        dsimp only
        rw [hc _ _ _ _ _ hcl]
        exact ih m _ r (by omega) h
    · rename_i R0 hs
      rw [hX _ _ hs]
      exact h
theorem sm_run_upX {X : Option (Nat × (Nat → Int32))} {c1 c2 : Nat → List Value → sm_H → Nat → Option sm_R} {j : Nat} (hc : ∀ j1 as σ u r, c1 j1 as σ u = some r → c2 j1 as σ u = some r) : ∀ (n m : Nat) (K : sm_K) (r : sm_R), n ≤ m → sm_run X c1 j n K = some r → sm_run X c2 j m K = some r := by
  intro n
  induction n with
  | zero => intro m K r _ h; cases h
  | succ n ih =>
    intro m K r hm h
    obtain ⟨m, rfl⟩ : ∃ k, m = k + 1 := ⟨m - 1, by omega⟩
    unfold sm_run at h ⊢
    split at h
    · cases h
    · rename_i K1 hs
      exact ih m K1 r (by omega) h
    · rename_i j1 as pc lv st σ u hs
      split at h
      · cases h
      · rename_i v h1 u1 hcl
        rw [hc _ _ _ _ _ hcl]
        exact ih m _ r (by omega) h
    · rename_i R0 hs
      exact h
theorem sm_ev_none {X : Option (Nat × (Nat → Int32))} : ∀ (d e n m j : Nat) (as : List Value) (σ : sm_H) (u : Nat) (r : sm_R), d ≤ e → n ≤ m → sm_ev none d n j as σ u = some r → sm_ev X e m j as σ u = some r := by
  intro d
  induction d with
  | zero => intro e n m j as σ u r _ _ h; cases h
  | succ d ih =>
    intro e n m j as σ u r he hn h
    obtain ⟨e, rfl⟩ : ∃ k, e = k + 1 := ⟨e - 1, by omega⟩
    unfold sm_ev at h ⊢
    split at h
    · rename_i hl
      rw [if_pos hl]
      exact sm_run_up (fun j1 as σ u r h => ih e n m j1 as σ u r (by omega) hn h) (fun K r h => sm_step_none h) n m _ r hn h
    · cases h
theorem sm_ev_up {X : Option (Nat × (Nat → Int32))} : ∀ (d e n m j : Nat) (as : List Value) (σ : sm_H) (u : Nat) (r : sm_R), d ≤ e → n ≤ m → sm_ev X d n j as σ u = some r → sm_ev X e m j as σ u = some r := by
  intro d
  induction d with
  | zero => intro e n m j as σ u r _ _ h; cases h
  | succ d ih =>
    intro e n m j as σ u r he hn h
    obtain ⟨e, rfl⟩ : ∃ k, e = k + 1 := ⟨e - 1, by omega⟩
    unfold sm_ev at h ⊢
    split at h
    · rename_i hl
      rw [if_pos hl]
      exact sm_run_upX (fun j1 as σ u r h => ih e n m j1 as σ u r (by omega) hn h) n m _ r hn h
    · cases h
