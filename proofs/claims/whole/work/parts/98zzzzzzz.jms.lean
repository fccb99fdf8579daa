/-! JUMPS LAND ON STEPS (pure): a target's steps before its last -/
section
variable {K : Nat → Nat}
def jF (_ _ : Int) : Prop := False
theorem jF_app {a b : List Op} (h1 : jG K jF a) (h2 : jG K jF b) : jG K jF (a ++ b) := jG_app h1 h2 (fun p q h => h.elim) (fun p q h => h.elim)
theorem px_jF {F t d k c e : Nat} {r : Nat × Nat × List Op} (h : px K F t d k c e = some r) : jG K jF r.2.2 := px_jG h
theorem jF_n {o : Op} (h : ¬ isJ o.1) : jG K jF [o] := jG_n h
theorem px_t12 : ∀ F d k a b r, px K F 12 d k a b = some r → (r.2.2 = [] ∧ r.2.1 = a) ∨ r.2.1 = 0 ∨ ∃ w o, r.2.2 = w ++ [o] ∧ jG K jF w := by
  intro F
  induction F with
  | zero => intro d k a b r h; cases h
  | succ F ih =>
    intro d k a b r h
    have h' : px12 K (px K F) d k a = some r := h
    unfold px12 at h'
    split at h'
    · split at h'
      · cases h'
      obtain ⟨r1, h1, h'⟩ := Option.bind_eq_some_iff.mp h'
      obtain ⟨r2, h2, h'⟩ := Option.bind_eq_some_iff.mp h'
      injection h' with h'
      subst h'
      rcases ih _ _ _ _ _ h2 with ⟨_, g⟩ | g | ⟨w, o, g1, g2⟩
      · exact Or.inr (Or.inl g)
      · exact Or.inr (Or.inl g)
      · refine Or.inr (Or.inr ⟨r1.2.2 ++ ([(51, [r1.2.1], 0, 0)] ++ w), o, ?_, jF_app (px_jF h1) (jF_app (jF_n (by unfold isJ; dsimp only; omega)) g2)⟩)
        dsimp only
        rw [g1]
        simp only [List.append_assoc, List.cons_append, List.nil_append]
    split at h'
    · split at h'
      · cases h'
      obtain ⟨r1, h1, h'⟩ := Option.bind_eq_some_iff.mp h'
      split at h'
      · obtain ⟨r2, h2, h'⟩ := Option.bind_eq_some_iff.mp h'
        injection h' with h'
        subst h'
        rcases ih _ _ _ _ _ h2 with ⟨g, _⟩ | g | ⟨w, o, g1, g2⟩
        · exact Or.inr (Or.inr ⟨r1.2.2, (39, [], 0, 0), by dsimp only; rw [g], px_jF h1⟩)
        · exact Or.inr (Or.inl g)
        · refine Or.inr (Or.inr ⟨r1.2.2 ++ ([(39, [], 0, 0)] ++ w), o, ?_, jF_app (px_jF h1) (jF_app (jF_n (by unfold isJ; dsimp only; omega)) g2)⟩)
          dsimp only
          rw [g1]
          simp only [List.append_assoc, List.cons_append, List.nil_append]
      · cases h'
    split at h'
    · split at h'
      · obtain ⟨r2, h2, h'⟩ := Option.bind_eq_some_iff.mp h'
        injection h' with h'
        subst h'
        rcases ih _ _ _ _ _ h2 with ⟨g, _⟩ | g | ⟨w, o, g1, g2⟩
        · exact Or.inr (Or.inr ⟨[], (44, [k + 1], 0, 0), by dsimp only; rw [g]; rfl, jG_nil⟩)
        · exact Or.inr (Or.inl g)
        · refine Or.inr (Or.inr ⟨[(44, [k + 1], 0, 0)] ++ w, o, ?_, jF_app (jF_n (by unfold isJ; dsimp only; omega)) g2⟩)
          dsimp only
          rw [g1]
          rfl
      · cases h'
    · injection h' with h'
      subst h'
      exact Or.inl ⟨rfl, rfl⟩
theorem px_lp {F t d k a : Nat} {s : Nat × Nat × List Op} (ht : t = 1 ∨ t = 3 ∨ t = 7 ∨ t = 9) (h : px K F t d k a 0 = some s) : s.2.1 = 0 ∨ (s.2.1 = a ∧ s.2.2 = []) := by
  cases F with
  | zero => cases h
  | succ F =>
    have hJ : ∀ w op t u, pxJ K (px K F) w op t u d k a = some s → s.2.1 = 0 ∨ (s.2.1 = a ∧ s.2.2 = []) := fun w op t u h => by
      unfold pxJ at h
      split at h
      · obtain ⟨r1, h1, h⟩ := Option.bind_eq_some_iff.mp h
        obtain ⟨r2, h2, h⟩ := Option.bind_eq_some_iff.mp h
        injection h with h
        subst h
        exact Or.inl rfl
      · injection h with h
        subst h
        exact Or.inr ⟨rfl, rfl⟩
    have hO : ∀ op t u, pxO K (px K F) op t u d k a = some s → s.2.1 = 0 ∨ (s.2.1 = a ∧ s.2.2 = []) := fun op t u h => by
      unfold pxO at h
      split at h
      · obtain ⟨r1, h1, h⟩ := Option.bind_eq_some_iff.mp h
        obtain ⟨r2, h2, h⟩ := Option.bind_eq_some_iff.mp h
        injection h with h
        subst h
        exact Or.inl rfl
      · injection h with h
        subst h
        exact Or.inr ⟨rfl, rfl⟩
    rcases ht with rfl | rfl | rfl | rfl
    · exact hJ _ _ _ _ h
    · exact hJ _ _ _ _ h
    · exact hO _ _ _ h
    · exact hO _ _ _ h
theorem px_tg : ∀ F t d k r, (t = 0 ∨ t = 2 ∨ t = 4 ∨ t = 5 ∨ t = 6 ∨ t = 8 ∨ t = 10 ∨ t = 11) → px K F t d k 0 0 = some r → r.2.1 ≠ 0 → ∃ w o, r.2.2 = w ++ [o] ∧ jG K jF w := by
  intro F
  induction F with
  | zero => intro t d k r _ h; cases h
  | succ F ih =>
    intro t d k r ht h hr
    have hL : ∀ u v, (u = 2 ∨ u = 4 ∨ u = 8 ∨ u = 10) → (v = 1 ∨ v = 3 ∨ v = 7 ∨ v = 9) → pxL (px K F) u v d k = some r → ∃ w o, r.2.2 = w ++ [o] ∧ jG K jF w := fun u v hu hv h => by
      unfold pxL at h
      obtain ⟨r1, h1, h⟩ := Option.bind_eq_some_iff.mp h
      obtain ⟨r2, h2, h⟩ := Option.bind_eq_some_iff.mp h
      injection h with h
      subst h
      rcases px_lp hv h2 with g | ⟨g1, g2⟩
      · exact absurd g hr
      · obtain ⟨w, o, w1, w2⟩ := ih u d k r1 (by omega) h1 (by rw [← g1]; exact hr)
        exact ⟨w, o, by dsimp only; rw [g2, List.append_nil]; exact w1, w2⟩
    have hU : ∀ w op t u, (u = 5 ∨ u = 11) → pxU K (px K F) w op t u d k = some r → ∃ w o, r.2.2 = w ++ [o] ∧ jG K jF w := fun w op t u hu h => by
      unfold pxU at h
      split at h
      · split at h
        · cases h
        obtain ⟨r1, h1, h⟩ := Option.bind_eq_some_iff.mp h
        injection h with h
        subst h
        exact absurd rfl hr
      · exact ih u d k r (by omega) h hr
    rcases ht with rfl | rfl | rfl | rfl | rfl | rfl | rfl | rfl
    · exact hL 2 1 (by omega) (by omega) h
    · exact hL 4 3 (by omega) (by omega) h
    · exact hU _ _ _ _ (Or.inl rfl) h
    · have h' : px5 K (px K F) d k = some r := h
      unfold px5 at h'
      obtain ⟨r1, h1, h'⟩ := Option.bind_eq_some_iff.mp h'
      split at h'
      · injection h' with h'
        subst h'
        exact ih 6 d k r1 (by omega) h1 hr
      · obtain ⟨r2, h2, h'⟩ := Option.bind_eq_some_iff.mp h'
        injection h' with h'
        subst h'
        exact absurd rfl hr
    · exact hL 8 7 (by omega) (by omega) h
    · exact hL 10 9 (by omega) (by omega) h
    · exact hU _ _ _ _ (Or.inr rfl) h
    · have h' : pxL (px K F) 15 12 d k = some r := h
      unfold pxL at h'
      obtain ⟨r1, h1, h'⟩ := Option.bind_eq_some_iff.mp h'
      obtain ⟨r2, h2, h'⟩ := Option.bind_eq_some_iff.mp h'
      injection h' with h'
      subst h'
      rcases px_t12 _ _ _ _ _ _ h2 with ⟨g1, g2⟩ | g | ⟨w, o, g1, g2⟩
      · have hr1 : r1.2.1 ≠ 0 := by rw [← g2]; exact hr
        dsimp only
        rw [g1, List.append_nil]
        cases F with
        | zero => cases h1
        | succ F =>
          have h5 : px15 K (px K F) d k = some r1 := h1
          unfold px15 at h5
          split at h5
          · injection h5 with h5
            subst h5
            exact ⟨[], _, rfl, jG_nil⟩
          split at h5
          · injection h5 with h5
            subst h5
            exact absurd rfl hr1
          split at h5
          · split at h5
            · cases h5
            obtain ⟨q, hq, h5⟩ := Option.bind_eq_some_iff.mp h5
            split at h5
            · injection h5 with h5
              subst h5
              exact absurd rfl hr1
            · cases h5
          split at h5
          · split at h5
            · cases h5
            obtain ⟨q, hq, h5⟩ := Option.bind_eq_some_iff.mp h5
            injection h5 with h5
            subst h5
            exact absurd rfl hr1
          split at h5
          · split at h5
            · cases h5
            obtain ⟨q, hq, h5⟩ := Option.bind_eq_some_iff.mp h5
            injection h5 with h5
            subst h5
            exact absurd rfl hr1
          · cases h5
      · exact absurd g hr
      · refine ⟨r1.2.2 ++ w, o, ?_, jF_app (px_jF h1) g2⟩
        dsimp only
        rw [g1, List.append_assoc]
end
