/-! THE REFERENCE'S EXPRESSIONS: four words a token at most -/
theorem pg_4 {K : Nat → Nat} {o : Op} (h : pg o) : lR K o ≤ 4 := by
  by_cases h16 : o.1 = 16
  · rw [lR_16 (K := K) h16]
    split <;> omega
  by_cases h18 : o.1 = 18 ∨ o.1 = 21
  · rw [lR_4 (K := K) h18]
    omega
  by_cases h25 : o.1 = 25 ∨ o.1 = 26 ∨ o.1 = 39
  · rw [lR_1 (K := K) h25]
    omega
  · rw [lR_2 (K := K) (o := o) (by unfold pg at h; omega)]
    omega
theorem px_4 {K : Nat → Nat} : ∀ F t d k a b r, px K F t d k a b = some r → wR K r.2.2 + 4 * k ≤ 4 * r.1 := by
  have wn : wR K [] = 0 := rfl
  have wc : ∀ (o : Op) (l : List Op), wR K (o :: l) = lR K o + wR K l := fun _ _ => rfl
  intro F
  induction F with
  | zero => intro t d k a b r h; cases h
  | succ F ih =>
    have hL : ∀ t u d k r, pxL (px K F) t u d k = some r → wR K r.2.2 + 4 * k ≤ 4 * r.1 := fun t u d k r h => by
      unfold pxL at h
      obtain ⟨r1, h1, h⟩ := Option.bind_eq_some_iff.mp h
      obtain ⟨r2, h2, h⟩ := Option.bind_eq_some_iff.mp h
      injection h with h
      subst h
      have ih1 := ih _ _ _ _ _ _ h1
      have ih2 := ih _ _ _ _ _ _ h2
      try simp only [wR_app, wc, wn]
      omega
    have hJ : ∀ w op t u d k a r, (op = 6 ∨ op = 7) → pxJ K (px K F) w op t u d k a = some r → wR K r.2.2 + 4 * k ≤ 4 * r.1 := fun w op t u d k a r hop h => by
      unfold pxJ at h
      split at h
      · obtain ⟨r1, h1, h⟩ := Option.bind_eq_some_iff.mp h
        obtain ⟨r2, h2, h⟩ := Option.bind_eq_some_iff.mp h
        injection h with h
        subst h
        have ih1 := ih _ _ _ _ _ _ h1
        have ih2 := ih _ _ _ _ _ _ h2
        have e4 := pg_4 (K := K) (o := jmp K op r1.2.2) (by have e : (jmp K op r1.2.2).1 = op := rfl; unfold pg; omega)
        try simp only [wR_app, wc, wn]
        omega
      · injection h with h
        subst h
        try simp only [wR_app, wc, wn]
        omega
    have hO : ∀ op t u d k a r, (∀ x, op x ≠ 0 → 25 ≤ op x ∧ op x ≤ 39) → pxO K (px K F) op t u d k a = some r → wR K r.2.2 + 4 * k ≤ 4 * r.1 := fun op t u d k a r hop h => by
      unfold pxO at h
      split at h
      · rename_i hk
        obtain ⟨r1, h1, h⟩ := Option.bind_eq_some_iff.mp h
        obtain ⟨r2, h2, h⟩ := Option.bind_eq_some_iff.mp h
        injection h with h
        subst h
        have e2 := hop _ hk
        have ih1 := ih _ _ _ _ _ _ h1
        have ih2 := ih _ _ _ _ _ _ h2
        have e4 := pg_4 (K := K) (o := (op (K k), [K k], 0, 0)) (by unfold pg; dsimp only; omega)
        try simp only [wR_app, wc, wn]
        omega
      · injection h with h
        subst h
        try simp only [wR_app, wc, wn]
        omega
    have hU : ∀ w op t u d k r, (op = 25 ∨ op = 26) → pxU K (px K F) w op t u d k = some r → wR K r.2.2 + 4 * k ≤ 4 * r.1 := fun w op t u d k r hop h => by
      unfold pxU at h
      split at h
      · split at h
        · cases h
        obtain ⟨r1, h1, h⟩ := Option.bind_eq_some_iff.mp h
        injection h with h
        subst h
        have ih1 := ih _ _ _ _ _ _ h1
        have e4 := pg_4 (K := K) (o := (op, [], 0, 0)) (by unfold pg; dsimp only; omega)
        try simp only [wR_app, wc, wn]
        omega
      · exact ih _ _ _ _ _ _ h
    intro t d k a b r h
    replace h : pxS K (px K F) t d k a b = some r := h
    unfold pxS at h
    split at h
    · exact hL _ _ _ _ _ h
    · exact hJ _ _ _ _ _ _ _ _ (Or.inr rfl) h
    · exact hL _ _ _ _ _ h
    · exact hJ _ _ _ _ _ _ _ _ (Or.inl rfl) h
    · exact hU _ _ _ _ _ _ _ (Or.inl rfl) h
    · unfold px5 at h
      obtain ⟨r1, h1, h⟩ := Option.bind_eq_some_iff.mp h
      split at h
      · injection h with h
        subst h
        have ih1 := ih _ _ _ _ _ _ h1
        try simp only [wR_app, wc, wn]
        omega
      · rename_i hk
        obtain ⟨r2, h2, h⟩ := Option.bind_eq_some_iff.mp h
        injection h with h
        subst h
        have e2 := cmpO_ok hk
        have ih1 := ih _ _ _ _ _ _ h1
        have ih2 := ih _ _ _ _ _ _ h2
        have e4 := pg_4 (K := K) (o := (cmpO (K r1.1), [K r1.1], 0, 0)) (by unfold pg; dsimp only; omega)
        try simp only [wR_app, wc, wn]
        omega
    · exact hL _ _ _ _ _ h
    · exact hO _ _ _ _ _ _ _ (fun x hx => by have := sumO_ok hx; omega) h
    · exact hL _ _ _ _ _ h
    · exact hO _ _ _ _ _ _ _ (fun x hx => by have := trmO_ok hx; omega) h
    · exact hU _ _ _ _ _ _ _ (Or.inr rfl) h
    · exact hL _ _ _ _ _ h
    · unfold px12 at h
      split at h
      · split at h
        · cases h
        obtain ⟨r1, h1, h⟩ := Option.bind_eq_some_iff.mp h
        obtain ⟨r2, h2, h⟩ := Option.bind_eq_some_iff.mp h
        injection h with h
        subst h
        have ih1 := ih _ _ _ _ _ _ h1
        have ih2 := ih _ _ _ _ _ _ h2
        have e4 := pg_4 (K := K) (o := (51, [r1.2.1], 0, 0)) (by unfold pg; dsimp only; omega)
        try simp only [wR_app, wc, wn]
        omega
      split at h
      · split at h
        · cases h
        obtain ⟨r1, h1, h⟩ := Option.bind_eq_some_iff.mp h
        split at h
        · obtain ⟨r2, h2, h⟩ := Option.bind_eq_some_iff.mp h
          injection h with h
          subst h
          have ih1 := ih _ _ _ _ _ _ h1
          have ih2 := ih _ _ _ _ _ _ h2
          have e4 := pg_4 (K := K) (o := (39, [], 0, 0)) (by unfold pg; dsimp only; omega)
          try simp only [wR_app, wc, wn]
          omega
        · cases h
      split at h
      · split at h
        · obtain ⟨r2, h2, h⟩ := Option.bind_eq_some_iff.mp h
          injection h with h
          subst h
          have ih2 := ih _ _ _ _ _ _ h2
          have e4 := pg_4 (K := K) (o := (44, [k + 1], 0, 0)) (by unfold pg; dsimp only; omega)
          try simp only [wR_app, wc, wn]
          omega
        · cases h
      · injection h with h
        subst h
        try simp only [wR_app, wc, wn]
        omega
    · unfold px13 at h
      split at h
      · injection h with h
        subst h
        try simp only [wR_app, wc, wn]
        omega
      split at h
      · cases h
      obtain ⟨r1, h1, h⟩ := Option.bind_eq_some_iff.mp h
      split at h
      · injection h with h
        subst h
        have ih1 := ih _ _ _ _ _ _ h1
        try simp only [wR_app, wc, wn]
        omega
      split at h
      · obtain ⟨r2, h2, h⟩ := Option.bind_eq_some_iff.mp h
        injection h with h
        subst h
        have ih1 := ih _ _ _ _ _ _ h1
        have ih2 := ih _ _ _ _ _ _ h2
        try simp only [wR_app, wc, wn]
        omega
      · cases h
    · unfold px14 at h
      split at h
      · injection h with h
        subst h
        try simp only [wR_app, wc, wn]
        omega
      split at h
      · cases h
      obtain ⟨r1, h1, h⟩ := Option.bind_eq_some_iff.mp h
      split at h
      · obtain ⟨r3, h3, h⟩ := Option.bind_eq_some_iff.mp h
        split at h
        · injection h with h
          subst h
          have ih1 := ih _ _ _ _ _ _ h1
          have ih3 := ih _ _ _ _ _ _ h3
          try simp only [wR_app, wc, wn]
          omega
        split at h
        · obtain ⟨r2, h2, h⟩ := Option.bind_eq_some_iff.mp h
          injection h with h
          subst h
          have ih1 := ih _ _ _ _ _ _ h1
          have ih3 := ih _ _ _ _ _ _ h3
          have ih2 := ih _ _ _ _ _ _ h2
          try simp only [wR_app, wc, wn]
          omega
        · cases h
      · cases h
    · unfold px15 at h
      split at h
      · injection h with h
        subst h
        have e4 := pg_4 (K := K) (o := ((if K (k + 1) = 6 then 21 else 18), [k], 0, 0)) (by
          unfold pg
          dsimp only
          split <;> omega)
        try simp only [wR_app, wc, wn]
        omega
      split at h
      · injection h with h
        subst h
        have e4 := pg_4 (K := K) (o := (16, [k], 0, 0)) (by unfold pg; dsimp only; omega)
        try simp only [wR_app, wc, wn]
        omega
      split at h
      · split at h
        · cases h
        obtain ⟨r1, h1, h⟩ := Option.bind_eq_some_iff.mp h
        split at h
        · injection h with h
          subst h
          have ih1 := ih _ _ _ _ _ _ h1
          try simp only [wR_app, wc, wn]
          omega
        · cases h
      split at h
      · split at h
        · cases h
        obtain ⟨r1, h1, h⟩ := Option.bind_eq_some_iff.mp h
        injection h with h
        subst h
        have ih1 := ih _ _ _ _ _ _ h1
        have e4 := pg_4 (K := K) (o := (49, [r1.2.1], 0, 0)) (by unfold pg; dsimp only; omega)
        try simp only [wR_app, wc, wn]
        omega
      split at h
      · split at h
        · cases h
        obtain ⟨r1, h1, h⟩ := Option.bind_eq_some_iff.mp h
        injection h with h
        subst h
        have ih1 := ih _ _ _ _ _ _ h1
        have e4 := pg_4 (K := K) (o := (50, [r1.2.1], 0, 0)) (by unfold pg; dsimp only; omega)
        try simp only [wR_app, wc, wn]
        omega
      · cases h
theorem exs_4 {K : Nat → Nat} {s k : Nat} {r : Nat × Nat × List Op} (h : exs K s k = some r) : wR K r.2.2 ≤ 4 * (r.1 - k) := by
  obtain ⟨r0, h1, h2⟩ := exs_px h
  obtain ⟨e1, e2, e3⟩ := map_wR K s r0.2.2
  have := px_4 _ _ _ _ _ _ _ h1
  rw [h2]
  dsimp only
  rw [e1]
  omega
