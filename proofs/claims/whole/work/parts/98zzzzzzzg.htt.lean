/-! HEIGHTS (pure): targets -/
/-- what stands ahead of a target's last step: nothing, object and key, object; that step -/
def tgh (g : Nat) : Nat := if g = 1 then 0 else if g = 2 then 2 else 1
def tgo (g : Nat) : Nat := if g = 1 then 18 else if g = 2 then 39 else 44
section
variable {K : Nat → Nat}
theorem px_t12h : ∀ F d k a b r, d ≤ 12 → px K F 12 d k a b = some r → (r.2.2 = [] ∧ r.2.1 = a) ∨ r.2.1 = 0 ∨ ((r.2.1 = 2 ∨ r.2.1 = 3) ∧ ∃ w o, r.2.2 = w ++ [o] ∧ o.1 = tgo r.2.1 ∧ ∀ h tr l l0, lcE K k h l l0 → lob l ≤ h → h + be d ≤ 603 → tr ≤ 10 → hF K l.2 w (some (h + 1, tr, l0)) (some (h + tgh r.2.1, tr, l))) := by
  intro F
  induction F with
  | zero => intro d k a b r _ h; cases h
  | succ F ih =>
    intro d k a b r hd h
    have h' : px12 K (px K F) d k a = some r := h
    obtain ⟨iA, iB, iC, iD, _⟩ := px_H (K := K) F
    have h4 := be_4 d
    unfold px12 at h'
    split at h'
    · split at h'
      · cases h'
      rename_i hd'
      have e1 := be_s hd'
      have e2 := be_4 (d + 1)
      obtain ⟨r1, h1, h'⟩ := Option.bind_eq_some_iff.mp h'
      obtain ⟨r2, h2, h'⟩ := Option.bind_eq_some_iff.mp h'
      injection h' with h'
      subst h'
      obtain ⟨g1, g2⟩ := iC _ _ _ _ _ (by omega) h1 (Or.inl rfl) (Nat.zero_le _)
      have g1' : r1.2.1 ≤ 8 := g1
      rcases ih _ _ _ _ _ hd h2 with ⟨_, g⟩ | g | ⟨gk, w, o, w1, w2, w3⟩
      · exact Or.inr (Or.inl g)
      · exact Or.inr (Or.inl g)
      · refine Or.inr (Or.inr ⟨gk, r1.2.2 ++ ([(51, [r1.2.1], 0, 0)] ++ w), o, ?_, w2, fun h tr l l0 hE hl hh htr => hF_app (by have g3 := g2 (h + 1) tr l0 (lcE_b hE hl).2 (by omega) htr; rw [(lcE_b hE hl).1] at g3; exact g3) (hF_app (hF_calE hE g1' hl (by omega) htr) (w3 h tr l l (Or.inl rfl) hl hh htr))⟩)
        dsimp only
        rw [w1]
        simp only [List.append_assoc, List.cons_append, List.nil_append]
    split at h'
    · split at h'
      · cases h'
      rename_i hd'
      have e1 := be_s hd'
      have e2 := be_4 (d + 1)
      obtain ⟨r1, h1, h'⟩ := Option.bind_eq_some_iff.mp h'
      split at h'
      · obtain ⟨r2, h2, h'⟩ := Option.bind_eq_some_iff.mp h'
        injection h' with h'
        subst h'
        have ge : ∀ h tr l, lob l ≤ h → h + be d ≤ 603 → tr ≤ 10 → hF K l.2 r1.2.2 (some (h + 1, tr, l)) (some (h + 2, tr, l)) := fun h tr l hl hh htr => iA 0 (by decide) _ _ _ _ _ (by omega) h1 (h + 1) tr l (by omega) (by have := bqv; omega) htr
        rcases ih _ _ _ _ _ hd h2 with ⟨g, gk⟩ | g | ⟨gk, w, o, w1, w2, w3⟩
        · refine Or.inr (Or.inr ⟨Or.inl gk, r1.2.2, (39, [], 0, 0), by dsimp only; rw [g], by dsimp only; rw [gk]; rfl, fun h tr l l0 hE hl hh htr => ?_⟩)
          rw [lcE_n hE (by omega)]
          dsimp only
          rw [gk]
          exact ge h tr l hl hh htr
        · exact Or.inr (Or.inl g)
        · refine Or.inr (Or.inr ⟨gk, r1.2.2 ++ ([(39, [], 0, 0)] ++ w), o, ?_, w2, fun h tr l l0 hE hl hh htr => by rw [lcE_n hE (by omega)]; exact hF_app (ge h tr l hl hh htr) (hF_app (hF_bin (by omega) hl (by omega) htr) (w3 h tr l l (Or.inl rfl) hl hh htr))⟩)
          dsimp only
          rw [w1]
          simp only [List.append_assoc, List.cons_append, List.nil_append]
      · cases h'
    split at h'
    · split at h'
      · obtain ⟨r2, h2, h'⟩ := Option.bind_eq_some_iff.mp h'
        injection h' with h'
        subst h'
        rcases ih _ _ _ _ _ hd h2 with ⟨g, gk⟩ | g | ⟨gk, w, o, w1, w2, w3⟩
        · refine Or.inr (Or.inr ⟨Or.inr gk, [], (44, [k + 1], 0, 0), by dsimp only; rw [g]; rfl, by dsimp only; rw [gk]; rfl, fun h tr l l0 hE hl hh htr => ?_⟩)
          rw [lcE_n hE (by omega)]
          dsimp only
          rw [gk]
          exact hF_nil
        · exact Or.inr (Or.inl g)
        · refine Or.inr (Or.inr ⟨gk, [(44, [k + 1], 0, 0)] ++ w, o, ?_, w2, fun h tr l l0 hE hl hh htr => by rw [lcE_n hE (by omega)]; exact hF_app (hF_un (by omega) hl (by omega) htr) (w3 h tr l l (Or.inl rfl) hl hh htr)⟩)
          dsimp only
          rw [w1]
          rfl
      · cases h'
    · injection h' with h'
      subst h'
      exact Or.inl ⟨rfl, rfl⟩
theorem px_tgh : ∀ F t d k r, d ≤ 12 → (t = 0 ∨ t = 2 ∨ t = 4 ∨ t = 5 ∨ t = 6 ∨ t = 8 ∨ t = 10 ∨ t = 11) → px K F t d k 0 0 = some r → r.2.1 ≠ 0 → (r.2.1 = 1 ∨ r.2.1 = 2 ∨ r.2.1 = 3) ∧ ∃ w o, r.2.2 = w ++ [o] ∧ o.1 = tgo r.2.1 ∧ ∀ h tr l, lob l ≤ h → h + be d ≤ 600 → tr ≤ 10 → hF K l.2 w (some (h, tr, l)) (some (h + tgh r.2.1, tr, l)) := by
  intro F
  induction F with
  | zero => intro t d k r _ _ h; cases h
  | succ F ih =>
    intro t d k r hd ht h hr
    have hL : ∀ u v, (u = 2 ∨ u = 4 ∨ u = 8 ∨ u = 10) → (v = 1 ∨ v = 3 ∨ v = 7 ∨ v = 9) → pxL (px K F) u v d k = some r → (r.2.1 = 1 ∨ r.2.1 = 2 ∨ r.2.1 = 3) ∧ ∃ w o, r.2.2 = w ++ [o] ∧ o.1 = tgo r.2.1 ∧ ∀ h tr l, lob l ≤ h → h + be d ≤ 600 → tr ≤ 10 → hF K l.2 w (some (h, tr, l)) (some (h + tgh r.2.1, tr, l)) := fun u v hu hv h => by
      unfold pxL at h
      obtain ⟨r1, h1, h⟩ := Option.bind_eq_some_iff.mp h
      obtain ⟨r2, h2, h⟩ := Option.bind_eq_some_iff.mp h
      injection h with h
      subst h
      rcases px_lp hv h2 with g | ⟨g1, g2⟩
      · exact absurd g hr
      · have hr1 : r1.2.1 ≠ 0 := by rw [← g1]; exact hr
        have := ih u d k r1 hd (by omega) h1 hr1
        dsimp only
        rw [g1, g2, List.append_nil]
        exact this
    have hU : ∀ w op t u, (u = 5 ∨ u = 11) → pxU K (px K F) w op t u d k = some r → (r.2.1 = 1 ∨ r.2.1 = 2 ∨ r.2.1 = 3) ∧ ∃ w o, r.2.2 = w ++ [o] ∧ o.1 = tgo r.2.1 ∧ ∀ h tr l, lob l ≤ h → h + be d ≤ 600 → tr ≤ 10 → hF K l.2 w (some (h, tr, l)) (some (h + tgh r.2.1, tr, l)) := fun w op t u hu h => by
      unfold pxU at h
      split at h
      · split at h
        · cases h
        obtain ⟨r1, h1, h⟩ := Option.bind_eq_some_iff.mp h
        injection h with h
        subst h
        exact absurd rfl hr
      · exact ih u d k r hd (by omega) h hr
    rcases ht with rfl | rfl | rfl | rfl | rfl | rfl | rfl | rfl
    · exact hL 2 1 (by omega) (by omega) h
    · exact hL 4 3 (by omega) (by omega) h
    · exact hU _ _ _ _ (Or.inl rfl) h
    · have h' : px5 K (px K F) d k = some r := h
      unfold px5 at h'
      obtain ⟨r1, h1, h'⟩ := Option.bind_eq_some_iff.mp h'
      split at h'
      · injection h' with h'
        subst h'
        exact ih 6 d k r1 hd (by omega) h1 hr
      · obtain ⟨r2, h2, h'⟩ := Option.bind_eq_some_iff.mp h'
        injection h' with h'
        subst h'
        exact absurd rfl hr
    · exact hL 8 7 (by omega) (by omega) h
    · exact hL 10 9 (by omega) (by omega) h
    · exact hU _ _ _ _ (Or.inr rfl) h
    · have h' : pxL (px K F) 15 12 d k = some r := h
      unfold pxL at h'
      obtain ⟨r1, h1, h'⟩ := Option.bind_eq_some_iff.mp h'
      obtain ⟨r2, h2, h'⟩ := Option.bind_eq_some_iff.mp h'
      injection h' with h'
      subst h'
      rcases px_t12h _ _ _ _ _ _ hd h2 with ⟨g1, g2⟩ | g | ⟨gk, w, o, g1, g2, g3⟩
      · have hr1 : r1.2.1 ≠ 0 := by rw [← g2]; exact hr
        dsimp only
        rw [g1, g2, List.append_nil]
        cases F with
        | zero => cases h1
        | succ F =>
          have h5 : px15 K (px K F) d k = some r1 := h1
          unfold px15 at h5
          split at h5
          · injection h5 with h5
            subst h5
            have hn : K (k + 1) ≠ 6 := fun c => hr1 (by dsimp only; rw [if_pos c])
            dsimp only
            rw [if_neg hn, if_neg hn]
            exact ⟨Or.inl rfl, [], _, rfl, rfl, fun h tr l _ _ _ => hF_nil⟩
          split at h5
          · injection h5 with h5
            subst h5
            exact absurd rfl hr1
          split at h5
          · split at h5
            · cases h5
            obtain ⟨q, hq, h5⟩ := Option.bind_eq_some_iff.mp h5
            split at h5
            · injection h5 with h5
              subst h5
              exact absurd rfl hr1
            · cases h5
          split at h5
          · split at h5
            · cases h5
            obtain ⟨q, hq, h5⟩ := Option.bind_eq_some_iff.mp h5
            injection h5 with h5
            subst h5
            exact absurd rfl hr1
          split at h5
          · split at h5
            · cases h5
            obtain ⟨q, hq, h5⟩ := Option.bind_eq_some_iff.mp h5
            injection h5 with h5
            subst h5
            exact absurd rfl hr1
          · cases h5
      · exact absurd g hr
      · refine ⟨Or.inr gk, r1.2.2 ++ w, o, ?_, g2, fun h tr l hl hh htr => ?_⟩
        rotate_left
        · obtain ⟨l0, q1, q2⟩ := (px_H F).2.2.2.2.2 _ _ _ _ _ hd h1 h tr l hl (by omega) htr
          exact hF_app q2 (g3 h tr l l0 q1 hl (by omega) htr)
        dsimp only
        rw [g1, List.append_assoc]
theorem hef_tg {o : Op} {h t : Nat} {l : LL} {s' : HS} (s : Nat) (hl : l.2 = s) (g : hef o h t l s') : hef (tgsc s o) h t l s' := by
  by_cases hc : 18 ≤ o.1 ∧ o.1 ≤ 21
  · rw [tgs_y hc]
    unfold hef at g ⊢
    dsimp only
    rw [if_neg (by omega), if_neg (by omega), if_neg (by omega), if_neg (by omega), if_neg (by omega), if_neg (by omega), if_neg (by omega), if_neg (by omega)] at g ⊢
    have e : hpp ((o.1, [o.2.1.headD 0, s], o.2.2.1, o.2.2.2) : Op) = hpp o := by
      unfold hpp
      dsimp only
      by_cases h1 : o.1 = 16 ∨ o.1 = 18 ∨ o.1 = 21 ∨ o.1 = 22 ∨ o.1 = 63 ∨ o.1 = 61
      · rw [if_pos h1, if_pos h1]
      rw [if_neg h1, if_neg h1]
      by_cases h2 : o.1 = 1 ∨ o.1 = 2 ∨ o.1 = 3 ∨ o.1 = 20 ∨ o.1 = 62
      · rw [if_pos h2, if_pos h2]
      rw [if_neg h2, if_neg h2]
      have h3 : o.1 = 19 := by omega
      rw [h3]
      rfl
    rw [e]
    rcases g with g | g
    · exact Or.inl ⟨hlm_n (by dsimp only; omega), fun _ _ => Or.inr hl.symm, g.2.2⟩
    · exact absurd g.1 (by omega)
  · rw [tgs_n hc]
    exact g
theorem hF_map {os : List Op} {s0 s1 : HS} (s : Nat) (h : hF K s os s0 s1) : hF K s (os.map (tgsc s)) s0 s1 := by
  obtain ⟨w, w1, w2, w3, w4⟩ := h
  have hd : ∀ (w : LO) (e : HS), hhd (w.map (fun x => (tgsc s x.1, x.2))) e = hhd w e := fun w e => by cases w <;> rfl
  have l1 : ∀ x : Op × HS, lC (tgsc s x.1) = lC x.1 := fun x => by
    have := (map_wC s [x.1]).1
    exact Nat.add_right_cancel this
  have l2 : ∀ x : Op × HS, lR K (tgsc s x.1) = lR K x.1 := fun x => by
    have := (map_wR K s [x.1]).1
    exact Nat.add_right_cancel this
  have e2 : ∀ o : Op, (tgsc s o).2.2 = o.2.2 := fun o => by
    by_cases h : 18 ≤ o.1 ∧ o.1 ≤ 21
    · rw [tgs_y h]
    · rw [tgs_n h]
  have hb : ∀ (w : LO) (c r p q : Int) (t : Nat × Nat × LL), hbn K s1 w c r p q t → hbn K s1 (w.map (fun x => (tgsc s x.1, x.2))) c r p q t := by
    intro w
    induction w with
    | nil => intro c r p q t g; exact g
    | cons x w ih =>
      intro c r p q t g
      rcases g with g | g
      · exact Or.inl g
      · refine Or.inr ?_
        show hbn K s1 _ (c + (lC (tgsc s x.1) : Nat)) (r + (lR K (tgsc s x.1) : Nat)) p q t
        rw [l1, l2]
        exact ih _ _ _ _ _ g
  have ha : ∀ (T : Int → Int → Nat × Nat × LL → Prop) (w : LO) (c r : Int), (∀ x, x ∈ w → lsc s x.2 ∧ x.1.1 ≠ 22) → hA K T none s1 w c r → hA K T none s1 (w.map (fun x => (tgsc s x.1, x.2))) c r := by
    intro T w
    induction w with
    | nil => intro c r _ _; exact True.intro
    | cons x w ih =>
      intro c r hw g
      refine ⟨⟨g.1.1, fun h t l hx => ?_⟩, ?_⟩
      · obtain ⟨g1, g2, g3, g4⟩ := g.1.2 h t l hx
        obtain ⟨b1, b2⟩ := hw x List.mem_cons_self
        refine ⟨?_, fun hj => ?_, fun h6 => g3 ?_, fun h2 => ?_⟩
        · rw [hd]
          exact hef_tg s (b1 h t l hx) g1
        · show T (c + (tgsc s x.1).2.2.1) (r + 1 + (tgsc s x.1).2.2.2) (hjs (tgsc s x.1) h t l)
          have e3 : hjs (tgsc s x.1) h t l = hjs x.1 h t l := by
            unfold hjs
            rw [tgs_1]
          rw [e2, e3]
          have hj' : isJ (tgsc s x.1).1 := hj
          rw [tgs_1] at hj'
          exact g2 hj'
        · have h6' : (tgsc s x.1).1 = 60 := h6
          rw [tgs_1] at h6'
          exact h6'
        · have h2' : (tgsc s x.1).1 = 22 := h2
          rw [tgs_1] at h2'
          exact absurd h2' b2
      · show hA K T none s1 _ (c + (lC (tgsc s x.1) : Nat)) (r + (lR K (tgsc s x.1) : Nat))
        rw [l1, l2]
        exact ih _ _ (fun y hy => hw y (List.mem_cons_of_mem _ hy)) g.2
  refine ⟨w.map (fun x => (tgsc s x.1, x.2)), ?_, by rw [hd]; exact w2, fun c r => hA_T (ha _ _ _ _ w4 (w3 c r)) (fun p q t g => hb _ _ _ _ _ _ g), fun x hx => ?_⟩
  · unfold opsO
    rw [List.map_map, ← w1]
    unfold opsO
    rw [List.map_map]
    rfl
  · obtain ⟨y, hy, e⟩ := List.mem_map.mp hx
    rw [← e]
    refine ⟨(w4 y hy).1, ?_⟩
    show (tgsc s y.1).1 ≠ 22
    rw [tgs_1]
    exact (w4 y hy).2
variable {s k : Nat} {x : Nat × Nat × List Op} {h tr : Nat} {l : LL}
theorem exs_H (hx : exs K s k = some x) (hs : l.2 = s) (hl : lob l ≤ h) (hh : h ≤ 80) (htr : tr ≤ 10) : hF K l.2 x.2.2 (some (h, tr, l)) (some (h + 1, tr, l)) := by
  obtain ⟨r0, r1, r2⟩ := exs_px hx
  rw [r2, hs]
  exact hF_map s (by rw [← hs]; exact (px_H _).1 0 (by decide) _ _ _ _ _ (by omega) r1 h tr l hl (by have := bqv; unfold be; omega) htr)
/-- a target's last step: its name's scope -/
theorem exs_tH (hx : exs K s k = some x) (hg : x.2.1 ≠ 0) : (x.2.1 = 1 ∨ x.2.1 = 2 ∨ x.2.1 = 3) ∧ ∃ w o, x.2.2 = w ++ [o] ∧ o.1 = tgo x.2.1 ∧ (x.2.1 = 1 → o.2.1.getD 1 0 = s) ∧ ∀ h tr l, l.2 = s → lob l ≤ h → h ≤ 80 → tr ≤ 10 → hF K l.2 w (some (h, tr, l)) (some (h + tgh x.2.1, tr, l)) := by
  obtain ⟨r0, r1, r2⟩ := exs_px hx
  subst r2
  obtain ⟨hk, w, o, w1, w2, w3⟩ := px_tgh _ _ _ _ _ (by omega) (Or.inl rfl) r1 hg
  refine ⟨hk, w.map (tgsc s), tgsc s o, by dsimp only; rw [w1, List.map_append]; rfl, by rw [tgs_1]; exact w2, fun h1 => ?_, fun h tr l hs hl hh htr => ?_⟩
  · have h1' : r0.2.1 = 1 := h1
    have ho : o.1 = 18 := by rw [w2, h1']; rfl
    rw [tgs_y (by omega)]
    rfl
  · rw [hs]
    exact hF_map s (by rw [← hs]; exact w3 h tr l hl (by unfold be; omega) htr)
end
