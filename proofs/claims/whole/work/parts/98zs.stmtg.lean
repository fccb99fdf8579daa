/-! STATEMENTS, pure: what targets are; how much steps take -/
def fxO (o : Op) : Nat := if 18 ≤ o.1 ∧ o.1 ≤ 21 ∧ o.2.1.getD 1 0 ≠ 0 then 1 else 0
def fxM : List Op → Nat
  | [] => 0
  | o :: r => fxO o + fxM r
theorem fxM_app (a b : List Op) : fxM (a ++ b) = fxM a + fxM b := by
  induction a with
  | nil => exact (Nat.zero_add _).symm
  | cons o r ih => show fxO o + fxM (r ++ b) = fxO o + fxM r + fxM b; rw [ih]; omega
theorem tgs_1 (s : Nat) (o : Op) : (tgsc s o).1 = o.1 := by
  unfold tgsc
  split <;> rfl
theorem tgs_n {s : Nat} {o : Op} (h : ¬ (18 ≤ o.1 ∧ o.1 ≤ 21)) : tgsc s o = o := by
  unfold tgsc
  rw [if_neg h]
theorem tgs_y {s : Nat} {o : Op} (h : 18 ≤ o.1 ∧ o.1 ≤ 21) : tgsc s o = (o.1, [o.2.1.headD 0, s], o.2.2.1, o.2.2.2) := by
  unfold tgsc
  rw [if_pos h]
theorem tgs_lC (s : Nat) (o : Op) : lC (tgsc s o) = lC o := by
  by_cases h : 18 ≤ o.1 ∧ o.1 ≤ 21
  · rw [tgs_y h]
    by_cases h21 : o.1 = 21
    · exact (lC_21 (o := (o.1, [o.2.1.headD 0, s], o.2.2.1, o.2.2.2)) h21).trans (lC_21 h21).symm
    · rw [lC_n (o := o) (by omega), lC_n (by dsimp only; omega)]
  · rw [tgs_n h]
theorem tgs_lR (K : Nat → Nat) (s : Nat) (o : Op) : lR K (tgsc s o) = lR K o ∧ nwO K (tgsc s o) = nwO K o ∧ ntO K (tgsc s o) = ntO K o := by
  by_cases h : 18 ≤ o.1 ∧ o.1 ≤ 21
  · rw [tgs_y h]
    refine ⟨?_, ?_, ?_⟩
    · unfold lR
      dsimp only
      rw [if_neg (by omega), if_pos h, if_neg (by omega), if_pos h]
    · unfold nwO
      rw [if_neg (fun c => by have := c.1; dsimp only at this; omega), if_neg (fun c => by have := c.1; omega)]
    · unfold ntO
      rw [if_neg (fun c => by have := c.1; dsimp only at this; omega), if_neg (fun c => by have := c.1; omega)]
  · rw [tgs_n h]
    exact ⟨rfl, rfl, rfl⟩
theorem tgs_cn (s : Nat) (o : Op) : cnO (tgsc s o) = cnO o ∧ fxO (tgsc s o) = if s = 0 then (if 18 ≤ o.1 ∧ o.1 ≤ 21 then 0 else fxO o) else (if 18 ≤ o.1 ∧ o.1 ≤ 21 then nmO o else fxO o) := by
  by_cases h : 18 ≤ o.1 ∧ o.1 ≤ 21
  · rw [tgs_y h]
    refine ⟨rfl, ?_⟩
    rw [if_pos h, if_pos h]
    unfold fxO nmO
    by_cases hs : s = 0
    · rw [if_pos hs, if_neg (fun c => c.2.2 hs)]
    · rw [if_neg hs, if_pos ⟨h.1, h.2, hs⟩, if_pos h]
  · rw [tgs_n h, if_neg h, if_neg h]
    exact ⟨rfl, by split <;> rfl⟩
theorem map_wC (s : Nat) : ∀ os : List Op, wC (os.map (tgsc s)) = wC os ∧ cnN (os.map (tgsc s)) = cnN os := by
  intro os
  induction os with
  | nil => exact ⟨rfl, rfl⟩
  | cons o r ih =>
    refine ⟨?_, ?_⟩
    · show lC (tgsc s o) + wC (r.map (tgsc s)) = lC o + wC r
      rw [tgs_lC, ih.1]
    · show cnO (tgsc s o) + cnN (r.map (tgsc s)) = cnO o + cnN r
      rw [(tgs_cn s o).1, ih.2]
theorem map_wR (K : Nat → Nat) (s : Nat) : ∀ os : List Op, wR K (os.map (tgsc s)) = wR K os ∧ nwN K (os.map (tgsc s)) = nwN K os ∧ ntN K (os.map (tgsc s)) = ntN K os := by
  intro os
  induction os with
  | nil => exact ⟨rfl, rfl, rfl⟩
  | cons o r ih =>
    obtain ⟨t1, t2, t3⟩ := tgs_lR K s o
    refine ⟨?_, ?_, ?_⟩
    · show lR K (tgsc s o) + wR K (r.map (tgsc s)) = lR K o + wR K r
      rw [t1, ih.1]
    · show nwO K (tgsc s o) + nwN K (r.map (tgsc s)) = nwO K o + nwN K r
      rw [t2, ih.2.1]
    · show ntO K (tgsc s o) + ntN K (r.map (tgsc s)) = ntO K o + ntN K r
      rw [t3, ih.2.2]
theorem map_fx (s : Nat) : ∀ os : List Op, (∀ o, o ∈ os → pg o) → fxM (os.map (tgsc s)) = fxN s os := by
  intro os
  induction os with
  | nil => intro _; unfold fxN; split <;> rfl
  | cons o r ih =>
    intro h
    have h1 := ih (fun o ho => h o (List.mem_cons_of_mem _ ho))
    have h2 := h o List.mem_cons_self
    show fxO (tgsc s o) + fxM (r.map (tgsc s)) = _
    rw [h1, (tgs_cn s o).2]
    have hf : ¬ (18 ≤ o.1 ∧ o.1 ≤ 21) → fxO o = 0 ∧ nmO o = 0 := fun hn => by
      unfold fxO nmO
      exact ⟨if_neg (fun c => hn ⟨c.1, c.2.1⟩), if_neg hn⟩
    unfold fxN
    by_cases hs : s = 0
    · rw [if_pos hs, if_pos hs, if_pos hs]
      split
      · rfl
      · rename_i hn; rw [(hf hn).1]
    · rw [if_neg hs, if_neg hs, if_neg hs]
      show _ = nmO o + nmN r
      split
      · rfl
      · rename_i hn; rw [(hf hn).1, (hf hn).2]
theorem exs_px {K : Nat → Nat} {s k : Nat} {r : Nat × Nat × List Op} (h : exs K s k = some r) : ∃ r0, px K 60000 0 0 k 0 0 = some r0 ∧ r = (r0.1, r0.2.1, r0.2.2.map (tgsc s)) := by
  unfold exs at h
  obtain ⟨r0, h1, h2⟩ := Option.bind_eq_some_iff.mp h
  injection h2 with h2
  exact ⟨r0, h1, h2.symm⟩
theorem exs_none {K : Nat → Nat} {s k : Nat} : exs K s k = none ↔ px K 60000 0 0 k 0 0 = none := by
  unfold exs
  cases px K 60000 0 0 k 0 0 with
  | none => exact ⟨fun _ => rfl, fun _ => rfl⟩
  | some x => exact ⟨fun h => (by cases h), fun h => (by cases h)⟩
theorem px_pg {K : Nat → Nat} {F t d k a b : Nat} {r : Nat × Nat × List Op} (h : px K F t d k a b = some r) : ∀ o, o ∈ r.2.2 → pg o :=
  px_Q (Q := fun l => ∀ o, o ∈ l → pg o) (fun o ho => by cases ho) (fun x y hx hy o ho => (List.mem_append.mp ho).elim (hx o) (hy o)) (fun o ho p hp => by rw [List.mem_singleton.mp hp]; exact ho) F t d k a b r h
/-- what an expression takes -/
theorem ex_pm {β : Nat → Nat} {n s k : Nat} {r : Nat × Nat × List Op} (h : exs (qK β n) s k = some r) : k + 1 ≤ r.1 ∧ 3 ≤ qK β n k ∧ rm β n r.1 + (r.1 - k) ≤ rm β n k ∧ qL β n r.1 = qL β n k ∧ qI β n r.1 = qI β n k ∧ qK β n r.1 ≠ 1 ∧ wC r.2.2 ≤ 3 * (r.1 - k) ∧ 2 * fxM r.2.2 ≤ (r.1 - k) + 1 ∧ 2 * cnN r.2.2 ≤ (r.1 - k) + 1 := by
  obtain ⟨r0, h1, rfl⟩ := exs_px h
  obtain ⟨q1, q2, q3, q4, q5⟩ := (px_G (qK β n) 60000).1 0 (by decide) _ _ _ _ _ h1
  obtain ⟨a1, a2, a3, a4⟩ := rm_run (by omega) q2
  obtain ⟨w1, w2⟩ := map_wC s r0.2.2
  have hf := map_fx s r0.2.2 (px_pg h1)
  have hfx := fxN_le s r0.2.2
  dsimp only
  rw [w1, w2, hf]
  exact ⟨q1, q2 k (Nat.le_refl _) (by omega), a1, a2, a3, a4 (by omega), by omega, by omega, by omega⟩
/-- targets -/
def TGe (K : Nat → Nat) (k : Nat) (r : Nat × Nat × List Op) : Prop := r.2.1 = 0 ∨ (r.2.1 = 1 ∧ r.2.2 = [(18, [k], 0, 0)] ∧ r.1 = k + 1 ∧ K k = 3) ∨ (r.2.1 = 2 ∧ ∃ os', r.2.2 = os' ++ [(39, [], 0, 0)]) ∨ (r.2.1 = 3 ∧ K (r.1 - 1) = 3 ∧ ∃ os', r.2.2 = os' ++ [(44, [r.1 - 1], 0, 0)])
def TGl (K : Nat → Nat) (k a : Nat) (r : Nat × Nat × List Op) : Prop := (r.2.2 = [] ∧ r.1 = k ∧ r.2.1 = a) ∨ r.2.1 = 0 ∨ (r.2.1 = 2 ∧ ∃ os', r.2.2 = os' ++ [(39, [], 0, 0)]) ∨ (r.2.1 = 3 ∧ K (r.1 - 1) = 3 ∧ ∃ os', r.2.2 = os' ++ [(44, [r.1 - 1], 0, 0)])
theorem TG_app {K : Nat → Nat} {k : Nat} {r s : Nat × Nat × List Op} (h : TGe K k r) (g : TGl K r.1 r.2.1 s) : TGe K k (s.1, s.2.1, r.2.2 ++ s.2.2) := by
  rcases g with ⟨g1, g2, g3⟩ | g | ⟨g, os, g2⟩ | ⟨g, g1, os, g2⟩
  · unfold TGe
    dsimp only
    rw [g1, g2, g3, List.append_nil]
    exact h
  · exact Or.inl g
  · exact Or.inr (Or.inr (Or.inl ⟨g, r.2.2 ++ os, by dsimp only; rw [g2, List.append_assoc]⟩))
  · exact Or.inr (Or.inr (Or.inr ⟨g, g1, r.2.2 ++ os, by dsimp only; rw [g2, List.append_assoc]⟩))
theorem TGl_cons {K : Nat → Nat} {k a a2 : Nat} {k2 : Nat} {s : Nat × Nat × List Op} {pre : List Op} (g : TGl K k2 a2 s) (h0 : s.2.2 = [] → s.1 = k2 → s.2.1 = a2 → TGl K k a (s.1, s.2.1, pre)) : TGl K k a (s.1, s.2.1, pre ++ s.2.2) := by
  rcases g with ⟨g1, g2, g3⟩ | g | ⟨g, os, g2⟩ | ⟨g, g1, os, g2⟩
  · rw [g1, List.append_nil]
    exact h0 g1 g2 g3
  · exact Or.inr (Or.inl g)
  · exact Or.inr (Or.inr (Or.inl ⟨g, pre ++ os, by dsimp only; rw [g2, List.append_assoc]⟩))
  · exact Or.inr (Or.inr (Or.inr ⟨g, g1, pre ++ os, by dsimp only; rw [g2, List.append_assoc]⟩))
theorem px_TG {K : Nat → Nat} : ∀ F, (∀ t, t ∈ [0, 2, 4, 5, 6, 8, 10, 11, 15] → ∀ d k a b r, px K F t d k a b = some r → TGe K k r) ∧ ∀ t, t ∈ [1, 3, 7, 9, 12] → ∀ d k a b r, px K F t d k a b = some r → TGl K k a r := by
  intro F
  induction F with
  | zero => exact ⟨fun _ _ _ _ _ _ _ h => (by cases h), fun _ _ _ _ _ _ _ h => (by cases h)⟩
  | succ F ih =>
    obtain ⟨ih1, ih2⟩ := ih
    have hL : ∀ t u d k r, t ∈ [0, 2, 4, 5, 6, 8, 10, 11, 15] → u ∈ [1, 3, 7, 9, 12] → pxL (px K F) t u d k = some r → TGe K k r := fun t u d k r ht hu h => by
      unfold pxL at h
      obtain ⟨r1, h1, h⟩ := Option.bind_eq_some_iff.mp h
      obtain ⟨r2, h2, h⟩ := Option.bind_eq_some_iff.mp h
      injection h with h
      subst h
      exact TG_app (ih1 t ht _ _ _ _ _ h1) (ih2 u hu _ _ _ _ _ h2)
    have hU : ∀ w op t u d k r, u ∈ [0, 2, 4, 5, 6, 8, 10, 11, 15] → pxU K (px K F) w op t u d k = some r → TGe K k r := fun w op t u d k r hu h => by
      unfold pxU at h
      split at h
      · split at h
        · cases h
        obtain ⟨r1, h1, h⟩ := Option.bind_eq_some_iff.mp h
        injection h with h
        subst h
        exact Or.inl rfl
      · exact ih1 u hu _ _ _ _ _ h
    have hJ : ∀ w op t u d k a r, pxJ K (px K F) w op t u d k a = some r → TGl K k a r := fun w op t u d k a r h => by
      unfold pxJ at h
      split at h
      · obtain ⟨r1, h1, h⟩ := Option.bind_eq_some_iff.mp h
        obtain ⟨r2, h2, h⟩ := Option.bind_eq_some_iff.mp h
        injection h with h
        subst h
        exact Or.inr (Or.inl rfl)
      · injection h with h
        subst h
        exact Or.inl ⟨rfl, rfl, rfl⟩
    have hO : ∀ op t u d k a r, pxO K (px K F) op t u d k a = some r → TGl K k a r := fun op t u d k a r h => by
      unfold pxO at h
      split at h
      · obtain ⟨r1, h1, h⟩ := Option.bind_eq_some_iff.mp h
        obtain ⟨r2, h2, h⟩ := Option.bind_eq_some_iff.mp h
        injection h with h
        subst h
        exact Or.inr (Or.inl rfl)
      · injection h with h
        subst h
        exact Or.inl ⟨rfl, rfl, rfl⟩
    refine ⟨fun t ht d k a b r h => ?_, fun t ht d k a b r h => ?_⟩
    · simp only [List.mem_cons, List.not_mem_nil, or_false] at ht
      rcases ht with rfl | rfl | rfl | rfl | rfl | rfl | rfl | rfl | rfl
      · exact hL 2 1 _ _ _ (by decide) (by decide) h
      · exact hL 4 3 _ _ _ (by decide) (by decide) h
      · exact hU _ _ _ 5 _ _ _ (by decide) h
      · replace h : px5 K (px K F) d k = some r := h
        unfold px5 at h
        obtain ⟨r1, h1, h⟩ := Option.bind_eq_some_iff.mp h
        split at h
        · injection h with h
          subst h
          exact ih1 6 (by decide) _ _ _ _ _ h1
        · obtain ⟨r2, h2, h⟩ := Option.bind_eq_some_iff.mp h
          injection h with h
          subst h
          exact Or.inl rfl
      · exact hL 8 7 _ _ _ (by decide) (by decide) h
      · exact hL 10 9 _ _ _ (by decide) (by decide) h
      · exact hU _ _ _ 11 _ _ _ (by decide) h
      · exact hL 15 12 _ _ _ (by decide) (by decide) h
      · replace h : px15 K (px K F) d k = some r := h
        unfold px15 at h
        split at h
        · rename_i hk
          injection h with h
          subst h
          by_cases h6 : K (k + 1) = 6
          · rw [if_pos h6, if_pos h6]; exact Or.inl rfl
          · rw [if_neg h6, if_neg h6]; exact Or.inr (Or.inl ⟨rfl, rfl, rfl, hk⟩)
        split at h
        · injection h with h
          subst h
          exact Or.inl rfl
        split at h
        · split at h
          · cases h
          obtain ⟨r1, h1, h⟩ := Option.bind_eq_some_iff.mp h
          split at h
          · injection h with h
            subst h
            exact Or.inl rfl
          · cases h
        split at h
        · split at h
          · cases h
          obtain ⟨r1, h1, h⟩ := Option.bind_eq_some_iff.mp h
          injection h with h
          subst h
          exact Or.inl rfl
        split at h
        · split at h
          · cases h
          obtain ⟨r1, h1, h⟩ := Option.bind_eq_some_iff.mp h
          injection h with h
          subst h
          exact Or.inl rfl
        · cases h
    · simp only [List.mem_cons, List.not_mem_nil, or_false] at ht
      rcases ht with rfl | rfl | rfl | rfl | rfl
      · exact hJ _ _ _ _ _ _ _ _ h
      · exact hJ _ _ _ _ _ _ _ _ h
      · exact hO _ _ _ _ _ _ _ h
      · exact hO _ _ _ _ _ _ _ h
      · replace h : px12 K (px K F) d k a = some r := h
        unfold px12 at h
        split at h
        · split at h
          · cases h
          obtain ⟨r1, h1, h⟩ := Option.bind_eq_some_iff.mp h
          obtain ⟨r2, h2, h⟩ := Option.bind_eq_some_iff.mp h
          injection h with h
          subst h
          have h3 := TGl_cons (k := k) (a := a) (pre := r1.2.2 ++ [(51, [r1.2.1], 0, 0)]) (ih2 12 (by decide) _ _ _ _ _ h2) (fun _ _ e => Or.inr (Or.inl e))
          rw [List.append_assoc] at h3
          exact h3
        split at h
        · split at h
          · cases h
          obtain ⟨r1, h1, h⟩ := Option.bind_eq_some_iff.mp h
          split at h
          · obtain ⟨r2, h2, h⟩ := Option.bind_eq_some_iff.mp h
            injection h with h
            subst h
            have h3 := TGl_cons (k := k) (a := a) (pre := r1.2.2 ++ [(39, [], 0, 0)]) (ih2 12 (by decide) _ _ _ _ _ h2) (fun _ _ e => Or.inr (Or.inr (Or.inl ⟨e, _, rfl⟩)))
            rw [List.append_assoc] at h3
            exact h3
          · cases h
        split at h
        · split at h
          · rename_i hk3
            obtain ⟨r2, h2, h⟩ := Option.bind_eq_some_iff.mp h
            injection h with h
            subst h
            exact TGl_cons (k := k) (a := a) (pre := [(44, [k + 1], 0, 0)]) (ih2 12 (by decide) _ _ _ _ _ h2) (fun _ e1 e => Or.inr (Or.inr (Or.inr ⟨e, by dsimp only; rw [e1]; exact hk3, [], by dsimp only; rw [e1]; rfl⟩)))
          · cases h
        · injection h with h
          subst h
          exact Or.inl ⟨rfl, rfl, rfl⟩
/-- what a target is -/
theorem ex_tg {K : Nat → Nat} {s k : Nat} {r : Nat × Nat × List Op} (h : exs K s k = some r) (hg : r.2.1 ≠ 0) : ∃ os' o, r.2.2 = os' ++ [o] ∧ ((r.2.1 = 1 ∧ os' = [] ∧ o = (18, [k, s], 0, 0) ∧ r.1 = k + 1 ∧ K k = 3) ∨ (r.2.1 = 2 ∧ o = (39, [], 0, 0)) ∨ (r.2.1 = 3 ∧ o = (44, [r.1 - 1], 0, 0) ∧ K (r.1 - 1) = 3)) := by
  obtain ⟨r0, h1, rfl⟩ := exs_px h
  dsimp only at hg ⊢
  rcases (px_TG 60000).1 0 (by decide) _ _ _ _ _ h1 with g | ⟨g1, g2, g3, g4⟩ | ⟨g, os, g2⟩ | ⟨g, g1, os, g2⟩
  · exact absurd g hg
  · rw [g2]
    exact ⟨[], _, rfl, Or.inl ⟨g1, rfl, rfl, g3, g4⟩⟩
  · rw [g2, List.map_append]
    exact ⟨_, _, rfl, Or.inr (Or.inl ⟨g, rfl⟩)⟩
  · rw [g2, List.map_append]
    exact ⟨_, _, rfl, Or.inr (Or.inr ⟨g, rfl, g1⟩)⟩
theorem rtl_app {a b c : Nat} {os : List Op} {o : Op} : rtl a b c (os ++ [o]) = os ++ [((if o.1 = 18 then a else if o.1 = 39 then b else c), o.2)] := by
  unfold rtl
  rw [List.dropLast_concat, List.getLast?_concat]
theorem rtl_w {K : Nat → Nat} {s k a b c : Nat} {r : Nat × Nat × List Op} (h : exs K s k = some r) (hg : r.2.1 ≠ 0) (ha : 18 ≤ a ∧ a ≤ 20) (hb : 40 ≤ b ∧ b ≤ 43) (hc : 45 ≤ c ∧ c ≤ 48) : wC (rtl a b c r.2.2) = wC r.2.2 ∧ fxM (rtl a b c r.2.2) = fxM r.2.2 ∧ cnN (rtl a b c r.2.2) = cnN r.2.2 := by
  obtain ⟨os, o, h1, h2⟩ := ex_tg h hg
  rw [h1, rtl_app, wC_app, wC_app, fxM_app, fxM_app, cnN_app, cnN_app]
  rcases h2 with ⟨_, _, rfl, _, _⟩ | ⟨_, rfl⟩ | ⟨_, rfl, _⟩
  · refine ⟨?_, ?_, ?_⟩
    · show _ + (lC (a, [k, s], 0, 0) + 0) = _ + (3 + 0)
      rw [lC_n (by dsimp only; omega)]
    · show _ + (fxO (a, [k, s], 0, 0) + 0) = _ + (fxO (18, [k, s], 0, 0) + 0)
      unfold fxO
      by_cases hs : s = 0
      · rw [if_neg (fun c => c.2.2 hs), if_neg (fun c => c.2.2 hs)]
      · rw [if_pos ⟨ha.1, by dsimp only; omega, hs⟩, if_pos ⟨by dsimp only; omega, by dsimp only; omega, hs⟩]
    · show _ + (cnO (a, [k, s], 0, 0) + 0) = _ + (0 + 0)
      rw [cnO_op (by omega)]
  · refine ⟨?_, ?_, ?_⟩
    · show _ + (lC (b, [], 0, 0) + 0) = _ + (1 + 0)
      rw [lC_op (by omega)]
    · show _ + (fxO (b, [], 0, 0) + 0) = _ + (0 + 0)
      unfold fxO
      rw [if_neg (fun c => by have := c.2.1; dsimp only at this; omega)]
    · show _ + (cnO (b, [], 0, 0) + 0) = _ + (0 + 0)
      rw [cnO_op (by omega)]
  · refine ⟨?_, ?_, ?_⟩
    · show _ + (lC (c, [r.1 - 1], 0, 0) + 0) = _ + (2 + 0)
      rw [lC_2 (by dsimp only; omega)]
    · show _ + (fxO (c, [r.1 - 1], 0, 0) + 0) = _ + (0 + 0)
      unfold fxO
      rw [if_neg (fun c => by have := c.2.1; dsimp only at this; omega)]
    · show _ + (cnO (c, [r.1 - 1], 0, 0) + 0) = _ + (0 + 0)
      rw [cnO_op (by omega)]
