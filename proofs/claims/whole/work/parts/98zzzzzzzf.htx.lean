/-! HEIGHTS (pure): expressions -/
def be (d : Nat) : Nat := 43 * (12 - d) + 4
theorem be_s {d : Nat} (h : ¬ 12 ≤ d) : be d = be (d + 1) + 43 := by unfold be; omega
theorem be_4 (d : Nat) : 4 ≤ be d := by unfold be; omega
/-- how much room a rule wants above what stands when it begins -/
def bq (t : Nat) : Nat := if t ≤ 5 then 600 else if t ≤ 7 then 601 else if t ≤ 9 then 602 else 603
theorem bqv : bq 0 = 600 ∧ bq 1 = 600 ∧ bq 2 = 600 ∧ bq 3 = 600 ∧ bq 4 = 600 ∧ bq 5 = 600 ∧ bq 6 = 601 ∧ bq 7 = 601 ∧ bq 8 = 602 ∧ bq 9 = 602 ∧ bq 10 = 603 ∧ bq 11 = 603 ∧ bq 12 = 603 ∧ bq 15 = 603 := by decide
section
variable {K : Nat → Nat} {F t d k a b h tr : Nat} {l : LL} {r : Nat × Nat × List Op}
theorem hlm_n {o : Op} (h : o.1 ≠ 24 ∧ o.1 ≠ 23 ∧ o.1 ≠ 49 ∧ o.1 ≠ 50 ∧ o.1 ≠ 51) : hlm o := ⟨fun c => absurd c h.1, fun c => absurd c h.2.1, fun c => absurd c h.2.2.1, fun c => absurd c h.2.2.2.1, fun c => absurd c h.2.2.2.2⟩
theorem hnm_n {o : Op} {s : Nat} (h : o.1 < 18 ∨ 21 < o.1) : hnm o s := fun a b => by omega
theorem hef_67 {o : Op} {s' : HS} (h67 : o.1 = 6 ∨ o.1 = 7) (hl : lob l + 1 ≤ h) (he : s' = some (h - 1, tr, l)) : hef o h tr l s' := by
  have hp : hpp o = (1, 0) := by
    unfold hpp
    rw [if_neg (by omega), if_neg (by omega), if_neg (by omega), if_neg (by omega), if_neg (by omega), if_neg (by omega), if_neg (by omega), if_neg (by omega), if_neg (by omega), if_neg (by omega), if_neg (by omega), if_neg (by omega), if_neg (by omega)]
  unfold hef
  rw [if_neg (by omega), if_neg (by omega), if_neg (by omega), if_neg (by omega), if_neg (by omega), if_neg (by omega), if_neg (by omega), if_neg (by omega), hp]
  exact Or.inl ⟨hlm_n (by omega), hnm_n (by omega), hl, by rw [hcl_n (by omega)]; exact he⟩
theorem hF_J {op : Nat} {os os' : List Op} (hop : op = 6 ∨ op = 7) (hl : lob l ≤ h) (hh : h + 1 ≤ 600) (ht : tr ≤ 10) (h1 : hF K l.2 os (some (h, tr, l)) (some (h + 1, tr, l))) (h2 : hF K l.2 os' (some (h + 1, tr, l)) (some (h + 1, tr, l))) : hF K l.2 (jmp K op os :: (os ++ os')) (some (h + 1, tr, l)) (some (h + 1, tr, l)) := by
  obtain ⟨u, u1, u2, u3, u4⟩ := h1
  obtain ⟨v, v1, v2, v3, v4⟩ := h2
  have l1 : lC (jmp K op os) = 2 := by rcases hop with rfl | rfl <;> rfl
  have l2 : lR K (jmp K op os) = 2 := by rcases hop with rfl | rfl <;> rfl
  have hin : ∀ c r : Int, hA K (fun p q s => hbn K (some (h + 1, tr, l)) (u ++ v) c r p q s) none (some (h + 1, tr, l)) (u ++ v) c r := fun c r => hA_app (by rw [v2]; exact hA_T (u3 c r) (fun p q s g => hbn_l (by rw [v2]; exact g))) (hA_T (v3 _ _) (fun p q s g => hbn_r g))
  refine ⟨(jmp K op os, some (h + 1, tr, l)) :: (u ++ v), ?_, rfl, fun c r => ⟨⟨lbb_s hh ht, fun h' t' l' e => ⟨?_, fun _ => ?_, fun c => ?_, fun c => ?_⟩⟩, hA_T (hin _ _) (fun p q s g => Or.inr g)⟩, fun x hx => ?_⟩
  · show _ :: (u ++ v).map _ = _
    rw [List.map_append, ← u1, ← v1]
  · have e' := Option.some.inj e
    injection e' with e1 e2
    injection e2 with e2 e3
    subst e1; subst e2; subst e3
    refine hef_67 (o := jmp K op os) hop (by omega) ?_
    show hhd (u ++ v) (some (h + 1, tr, l)) = some (h + 1 - 1, tr, l)
    rw [hhd_app, v2, u2]
    rfl
  · have e' := Option.some.inj e
    have hj : hjs (jmp K op os) h' t' l' = (h', t', l') := if_neg (by show ¬ op = 5; omega)
    rw [hj, ← e']
    refine Or.inr (hbn_r (hbn_pq (hbn_0 v2) ?_ ?_))
    · rw [u1, l1]
      show c + ((2 + wC os : Nat) : Int) = _
      omega
    · rw [u1, l2]
      show r + 1 + ((1 + wR K os : Nat) : Int) = _
      omega
  · have c' : op = 60 := c
    omega
  · have c' : op = 22 := c
    omega
  · rcases List.mem_cons.mp hx with e | hx
    · rw [e]
      refine ⟨lsc_s rfl, ?_⟩
      show op ≠ 22
      omega
    · exact (List.mem_append.mp hx).elim (u4 x) (v4 x)
theorem sumO_p {x : Nat} (h : sumO x ≠ 0) : 27 ≤ sumO x ∧ sumO x ≤ 39 := by have := sumO_ok h; omega
theorem trmO_p {x : Nat} (h : trmO x ≠ 0) : 27 ≤ trmO x ∧ trmO x ≤ 39 := by have := trmO_ok h; omega
theorem hF_bin {x : Nat} {os : List Nat} {y z : Int} (h1 : 27 ≤ x ∧ x ≤ 39) (hl : lob l ≤ h) (hh : h + 2 ≤ 600) (ht : tr ≤ 10) : hF K l.2 [((x, os, y, z) : Op)] (some (h + 2, tr, l)) (some (h + 1, tr, l)) := by
  have hp : hpp ((x, os, y, z) : Op) = (2, 1) := by
    unfold hpp
    dsimp only
    rw [if_neg (by omega), if_neg (by omega), if_neg (by omega), if_pos (by omega)]
  exact hF_p (Or.inl (by dsimp only; omega)) (by dsimp only; omega) (by dsimp only; omega) (hlm_n (by dsimp only; omega)) (hnm_n (by dsimp only; omega)) (by rw [hp]; dsimp only; omega) (by rw [hp]; dsimp only; try omega) hh ht
theorem hF_un {x : Nat} {os : List Nat} {y z : Int} (h1 : x = 25 ∨ x = 26 ∨ x = 44) (hl : lob l ≤ h) (hh : h + 1 ≤ 600) (ht : tr ≤ 10) : hF K l.2 [((x, os, y, z) : Op)] (some (h + 1, tr, l)) (some (h + 1, tr, l)) := by
  have hp : hpp ((x, os, y, z) : Op) = (1, 1) := by
    unfold hpp
    dsimp only
    rw [if_neg (by omega), if_neg (by omega), if_pos (by omega)]
  exact hF_p (Or.inl (by dsimp only; omega)) (by dsimp only; omega) (by dsimp only; omega) (hlm_n (by dsimp only; omega)) (hnm_n (by dsimp only; omega)) (by rw [hp]; dsimp only; omega) (by rw [hp]) hh ht
theorem hF_put {x : Nat} {os : List Nat} {y z : Int} (h1 : x = 16 ∨ x = 18 ∨ x = 63 ∨ x = 61) (hn : hnm ((x, os, y, z) : Op) l.2) (hl : lob l ≤ h) (hh : h ≤ 600) (ht : tr ≤ 10) : hF K l.2 [((x, os, y, z) : Op)] (some (h, tr, l)) (some (h + 1, tr, l)) := by
  have hp : hpp ((x, os, y, z) : Op) = (0, 1) := by
    unfold hpp
    dsimp only
    rw [if_pos (by omega)]
  exact hF_p (Or.inl (by dsimp only; omega)) (by dsimp only; omega) (by dsimp only; omega) (hlm_n (by dsimp only; omega)) hn (by rw [hp]; dsimp only; omega) (by rw [hp]; dsimp only; try omega) hh ht
theorem hF_cal {n : Nat} (hn : n ≤ 8) (hl : lob l ≤ h) (hh : h + 1 + n ≤ 600) (ht : tr ≤ 10) : hF K l.2 [((51, [n], 0, 0) : Op)] (some (h + 1 + n, tr, l)) (some (h + 1, tr, l)) :=
  hF_p (Or.inl (by dsimp only; omega)) (by dsimp only; omega) (by dsimp only; omega) ⟨(fun c => by cases c), (fun c => by cases c), (fun c => by cases c), (fun c => by cases c), fun _ => hn⟩ (hnm_n (by dsimp only; omega)) (by show lob l + (n + 1) ≤ _; omega) (by show h + 1 + (n + 1) = h + 1 + n + 1; omega) hh ht
/-- what is to be called: from here on it is not to be touched -/
theorem hF_21 {os : List Nat} {y z : Int} (hn : hnm ((21, os, y, z) : Op) l.2) (hl : lob l ≤ h) (hh : h ≤ 600) (ht : tr ≤ 10) : hF K l.2 [((21, os, y, z) : Op)] (some (h, tr, l)) (some (h + 1, tr, lcl h l)) :=
  hF_1 (by unfold isJ; dsimp only; omega) (by dsimp only; omega) (by dsimp only; omega) (lbb_s hh ht) (lsc_s rfl) (fun h' t' l' e => by
    injection e with e
    injection e with e1 e2
    injection e2 with e2 e3
    subst e1; subst e2; subst e3
    unfold hef
    dsimp only
    rw [if_neg (by omega), if_neg (by omega), if_neg (by omega), if_neg (by omega), if_neg (by omega), if_neg (by omega), if_neg (by omega), if_neg (by omega)]
    exact Or.inl ⟨hlm_n (by dsimp only; omega), hn, hl, rfl⟩)
theorem hF_cal' {n : Nat} (hn : n ≤ 8) (hl : lob l ≤ h) (hh : h + 1 + n ≤ 600) (ht : tr ≤ 10) : hF K l.2 [((51, [n], 0, 0) : Op)] (some (h + 1 + n, tr, lcl h l)) (some (h + 1, tr, l)) :=
  hF_1 (by unfold isJ; dsimp only; omega) (by dsimp only; omega) (by dsimp only; omega) (lbb_s hh ht) (lsc_s rfl) (fun h' t' l' e => by
    injection e with e
    injection e with e1 e2
    injection e2 with e2 e3
    subst e1; subst e2; subst e3
    unfold hef
    dsimp only
    rw [if_neg (by omega), if_neg (by omega), if_neg (by omega), if_neg (by omega), if_neg (by omega), if_neg (by omega), if_neg (by omega), if_neg (by omega)]
    exact Or.inr ⟨rfl, ⟨(fun c => by cases c), (fun c => by cases c), (fun c => by cases c), (fun c => by cases c), fun _ => hn⟩, h, l, rfl, hl, rfl, rfl⟩)
/-- what stands when a row of values, items, calls goes on: nothing, or what is to be called -/
def lcE (K : Nat → Nat) (k h : Nat) (l l0 : LL) : Prop := l0 = l ∨ (K k = 6 ∧ l0 = lcl h l)
theorem hF_calE {n k : Nat} {l0 : LL} (hE : lcE K k h l l0) (hn : n ≤ 8) (hl : lob l ≤ h) (hh : h + 1 + n ≤ 600) (ht : tr ≤ 10) : hF K l.2 [((51, [n], 0, 0) : Op)] (some (h + 1 + n, tr, l0)) (some (h + 1, tr, l)) := by
  rcases hE with e | ⟨_, e⟩
  · rw [e]; exact hF_cal hn hl hh ht
  · rw [e]; exact hF_cal' hn hl hh ht
theorem lcE_b {k : Nat} {l0 : LL} (hE : lcE K k h l l0) (hl : lob l ≤ h) : l0.2 = l.2 ∧ lob l0 ≤ h + 1 := by
  rcases hE with e | ⟨_, e⟩
  · rw [e]; exact ⟨rfl, by omega⟩
  · rw [e]; exact ⟨rfl, Nat.le_refl _⟩
theorem lcE_n {k : Nat} {l0 : LL} (hE : lcE K k h l l0) (h6 : K k ≠ 6) : l0 = l := hE.resolve_right (fun c => h6 c.1)
theorem hF_lst {n : Nat} (hn : n ≤ 40) (hl : lob l ≤ h) (hh : h + n ≤ 600) (ht : tr ≤ 10) : hF K l.2 [((49, [n], 0, 0) : Op)] (some (h + n, tr, l)) (some (h + 1, tr, l)) :=
  hF_p (Or.inl (by dsimp only; omega)) (by dsimp only; omega) (by dsimp only; omega) ⟨(fun c => by cases c), (fun c => by cases c), fun _ => hn, (fun c => by cases c), (fun c => by cases c)⟩ (hnm_n (by dsimp only; omega)) (by show lob l + n ≤ _; omega) (by show h + 1 + n = h + n + 1; omega) hh ht
theorem hF_dct {n : Nat} (hn : n ≤ 20) (hl : lob l ≤ h) (hh : h + 2 * n ≤ 600) (ht : tr ≤ 10) : hF K l.2 [((50, [n], 0, 0) : Op)] (some (h + 2 * n, tr, l)) (some (h + 1, tr, l)) :=
  hF_p (Or.inl (by dsimp only; omega)) (by dsimp only; omega) (by dsimp only; omega) ⟨(fun c => by cases c), (fun c => by cases c), (fun c => by cases c), fun _ => hn, (fun c => by cases c)⟩ (hnm_n (by dsimp only; omega)) (by show lob l + 2 * n ≤ _; omega) (by show h + 1 + 2 * n = h + 2 * n + 1; omega) hh ht
def pxHA (K : Nat → Nat) (R : Nat → Nat → Nat → Nat → Nat → PR) : Prop := ∀ t, t ∈ [0, 2, 4, 5, 6, 8, 10, 11] → ∀ d k a b r, d ≤ 12 → R t d k a b = some r → ∀ h tr l, lob l ≤ h → h + be d ≤ bq t → tr ≤ 10 → hF K l.2 r.2.2 (some (h, tr, l)) (some (h + 1, tr, l))
def pxHB (K : Nat → Nat) (R : Nat → Nat → Nat → Nat → Nat → PR) : Prop := ∀ t, t ∈ [1, 3, 7, 9, 12] → ∀ d k a b r, d ≤ 12 → R t d k a b = some r → ∀ h tr l, lob l ≤ h → h + be d ≤ bq t → tr ≤ 10 → hF K l.2 r.2.2 (some (h + 1, tr, l)) (some (h + 1, tr, l))
def pxHC (K : Nat → Nat) (R : Nat → Nat → Nat → Nat → Nat → PR) : Prop := ∀ d k a b r, d ≤ 12 → R 13 d k a b = some r → (b = 7 ∨ b = 9) → a ≤ most b → r.2.1 ≤ most b ∧ ∀ h tr l, lob l ≤ h → h + 39 + be d ≤ 600 → tr ≤ 10 → hF K l.2 r.2.2 (some (h + a, tr, l)) (some (h + r.2.1, tr, l))
def pxHD (K : Nat → Nat) (R : Nat → Nat → Nat → Nat → Nat → PR) : Prop := ∀ d k a b r, d ≤ 12 → R 14 d k a b = some r → a ≤ 20 → r.2.1 ≤ 20 ∧ ∀ h tr l, lob l ≤ h → h + 39 + be d ≤ 600 → tr ≤ 10 → hF K l.2 r.2.2 (some (h + 2 * a, tr, l)) (some (h + 2 * r.2.1, tr, l))
def pxHE (K : Nat → Nat) (R : Nat → Nat → Nat → Nat → Nat → PR) : Prop := ∀ d k a b r, d ≤ 12 → R 12 d k a b = some r → ∀ h tr l l0, lcE K k h l l0 → lob l ≤ h → h + be d ≤ 603 → tr ≤ 10 → hF K l.2 r.2.2 (some (h + 1, tr, l0)) (some (h + 1, tr, l))
/-- an atom: a name that a bracket follows is to be called -/
def pxHF (K : Nat → Nat) (R : Nat → Nat → Nat → Nat → Nat → PR) : Prop := ∀ d k a b r, d ≤ 12 → R 15 d k a b = some r → ∀ h tr l, lob l ≤ h → h + be d ≤ 603 → tr ≤ 10 → ∃ l0, lcE K r.1 h l l0 ∧ hF K l.2 r.2.2 (some (h, tr, l)) (some (h + 1, tr, l0))
theorem px_H : ∀ F, pxHA K (px K F) ∧ pxHB K (px K F) ∧ pxHC K (px K F) ∧ pxHD K (px K F) ∧ pxHE K (px K F) ∧ pxHF K (px K F) := by
  intro F
  induction F with
  | zero => exact ⟨(fun t _ d k a b r _ h => by cases h), (fun t _ d k a b r _ h => by cases h), (fun d k a b r _ h => by cases h), (fun d k a b r _ h => by cases h), (fun d k a b r _ h => by cases h), (fun d k a b r _ h => by cases h)⟩
  | succ F ih =>
    obtain ⟨iA, iB, iC, iD, iE, iF⟩ := ih
    have hL : ∀ t u d k r, t ∈ [0, 2, 4, 5, 6, 8, 10, 11] → u ∈ [1, 3, 7, 9, 12] → d ≤ 12 → pxL (px K F) t u d k = some r → ∀ h tr l, lob l ≤ h → h + be d ≤ bq t → h + be d ≤ bq u → tr ≤ 10 → hF K l.2 r.2.2 (some (h, tr, l)) (some (h + 1, tr, l)) := fun t u d k r ht hu hd hx h tr l hl hh hh' htr => by
      unfold pxL at hx
      obtain ⟨r1, h1, hx⟩ := Option.bind_eq_some_iff.mp hx
      obtain ⟨r2, h2, hx⟩ := Option.bind_eq_some_iff.mp hx
      injection hx with hx
      subst hx
      exact hF_app (iA t ht _ _ _ _ _ hd h1 h tr l hl hh htr) (iB u hu _ _ _ _ _ hd h2 h tr l hl hh' htr)
    have hJ : ∀ w op t u d k a r, (op = 6 ∨ op = 7) → t ∈ [0, 2, 4, 5, 6, 8, 10, 11] → u ∈ [1, 3, 7, 9, 12] → d ≤ 12 → pxJ K (px K F) w op t u d k a = some r → ∀ h tr l, lob l ≤ h → h + be d ≤ 600 → h + be d ≤ bq t → h + be d ≤ bq u → tr ≤ 10 → hF K l.2 r.2.2 (some (h + 1, tr, l)) (some (h + 1, tr, l)) := fun w op t u d k a r hop ht hu hd hx h tr l hl h6 hh hh' htr => by
      unfold pxJ at hx
      split at hx
      · obtain ⟨r1, h1, hx⟩ := Option.bind_eq_some_iff.mp hx
        obtain ⟨r2, h2, hx⟩ := Option.bind_eq_some_iff.mp hx
        injection hx with hx
        subst hx
        have := be_4 d
        exact hF_J hop hl (by omega) htr (iA t ht _ _ _ _ _ hd h1 h tr l hl hh htr) (iB u hu _ _ _ _ _ hd h2 h tr l hl hh' htr)
      · injection hx with hx
        subst hx
        exact hF_nil
    have hO : ∀ op t u d k a r, (∀ x, op x ≠ 0 → 27 ≤ op x ∧ op x ≤ 39) → t ∈ [0, 2, 4, 5, 6, 8, 10, 11] → u ∈ [1, 3, 7, 9, 12] → d ≤ 12 → pxO K (px K F) op t u d k a = some r → ∀ h tr l, lob l ≤ h → h + 1 + be d ≤ bq t → h + be d ≤ bq u → tr ≤ 10 → h + 2 ≤ 600 → hF K l.2 r.2.2 (some (h + 1, tr, l)) (some (h + 1, tr, l)) := fun op t u d k a r hop ht hu hd hx h tr l hl hh hh' htr h6 => by
      unfold pxO at hx
      split at hx
      · rename_i hk
        obtain ⟨r1, h1, hx⟩ := Option.bind_eq_some_iff.mp hx
        obtain ⟨r2, h2, hx⟩ := Option.bind_eq_some_iff.mp hx
        injection hx with hx
        subst hx
        exact hF_app (iA t ht _ _ _ _ _ hd h1 (h + 1) tr l (by omega) hh htr) (hF_app (os := [_]) (hF_bin (hop _ hk) hl h6 htr) (iB u hu _ _ _ _ _ hd h2 h tr l hl hh' htr))
      · injection hx with hx
        subst hx
        exact hF_nil
    have hU : ∀ w op t u d k r, (op = 25 ∨ op = 26) → t ∈ [0, 2, 4, 5, 6, 8, 10, 11] → u ∈ [0, 2, 4, 5, 6, 8, 10, 11] → d ≤ 12 → pxU K (px K F) w op t u d k = some r → ∀ h tr l, lob l ≤ h → h + be d ≤ 603 → h + be d ≤ bq u → (¬ 12 ≤ d → h + be (d + 1) ≤ bq t) → tr ≤ 10 → hF K l.2 r.2.2 (some (h, tr, l)) (some (h + 1, tr, l)) := fun w op t u d k r hop ht hu hd hx h tr l hl h6 hh hh' htr => by
      unfold pxU at hx
      split at hx
      · split at hx
        · cases hx
        rename_i hd'
        obtain ⟨r1, h1, hx⟩ := Option.bind_eq_some_iff.mp hx
        injection hx with hx
        subst hx
        have := be_s hd'
        exact hF_app (iA t ht _ _ _ _ _ (by omega) h1 h tr l hl (hh' hd') htr) (hF_un (by omega) hl (by omega) htr)
      · exact iA u hu _ _ _ _ _ hd hx h tr l hl hh htr
    have h12 : pxHE K (px K (F + 1)) := by
      intro d k a b r hd hx h tr l l0 hE hl hh' htr
      have h4 := be_4 d
      have bv := bqv
      have hx' : px12 K (px K F) d k a = some r := hx
      obtain ⟨e3, e4⟩ := lcE_b hE hl
      unfold px12 at hx'
      split at hx'
      · split at hx'
        · cases hx'
        rename_i hd'
        have e1 := be_s hd'
        have e2 := be_4 (d + 1)
        obtain ⟨r1, h1, hx'⟩ := Option.bind_eq_some_iff.mp hx'
        obtain ⟨r2, h2, hx'⟩ := Option.bind_eq_some_iff.mp hx'
        injection hx' with hx'
        subst hx'
        obtain ⟨g1, g2⟩ := iC _ _ _ _ _ (by omega) h1 (Or.inl rfl) (Nat.zero_le _)
        have g1' : r1.2.1 ≤ 8 := g1
        have g3 := g2 (h + 1) tr l0 e4 (by omega) htr
        rw [e3] at g3
        exact hF_app g3 (hF_app (os := [_]) (hF_calE hE g1' hl (by omega) htr) (iB 12 (by decide) _ _ _ _ _ hd h2 h tr l hl (by have := bqv; omega) htr))
      split at hx'
      · split at hx'
        · cases hx'
        rename_i hd'
        have e1 := be_s hd'
        have e2 := be_4 (d + 1)
        obtain ⟨r1, h1, hx'⟩ := Option.bind_eq_some_iff.mp hx'
        split at hx'
        · obtain ⟨r2, h2, hx'⟩ := Option.bind_eq_some_iff.mp hx'
          injection hx' with hx'
          subst hx'
          rw [lcE_n hE (by omega)]
          exact hF_app (iA 0 (by decide) _ _ _ _ _ (by omega) h1 (h + 1) tr l (by omega) (by have := bqv; omega) htr) (hF_app (os := [_]) (hF_bin (by omega) hl (by omega) htr) (iB 12 (by decide) _ _ _ _ _ hd h2 h tr l hl (by have := bqv; omega) htr))
        · cases hx'
      split at hx'
      · split at hx'
        · obtain ⟨r2, h2, hx'⟩ := Option.bind_eq_some_iff.mp hx'
          injection hx' with hx'
          subst hx'
          rw [lcE_n hE (by omega)]
          exact hF_app (os := [_]) (hF_un (by omega) hl (by omega) htr) (iB 12 (by decide) _ _ _ _ _ hd h2 h tr l hl (by have := bqv; omega) htr)
        · cases hx'
      · injection hx' with hx'
        subst hx'
        rw [lcE_n hE (by assumption)]
        exact hF_nil
    refine ⟨?_, ?_, ?_, ?_, h12, ?_⟩
    · intro t ht d k a b r hd hx h tr l hl hh htr
      have h4 := be_4 d
      have bv := bqv
      have hx' : pxS K (px K F) t d k a b = some r := hx
      unfold pxS at hx'
      split at hx'
      · exact hL _ _ _ _ _ (by decide) (by decide) hd hx' h tr l hl (by have := bqv; omega) (by have := bqv; omega) htr
      · exact absurd ht (by decide)
      · exact hL _ _ _ _ _ (by decide) (by decide) hd hx' h tr l hl (by have := bqv; omega) (by have := bqv; omega) htr
      · exact absurd ht (by decide)
      · exact hU _ _ _ _ _ _ _ (Or.inl rfl) (by decide) (by decide) hd hx' h tr l hl (by omega) (by have := bqv; omega) (fun hd' => by have := be_s hd'; have := bqv; omega) htr
      · unfold px5 at hx'
        obtain ⟨r1, h1, hx'⟩ := Option.bind_eq_some_iff.mp hx'
        have g1 := iA 6 (by decide) _ _ _ _ _ hd h1 h tr l hl (by have := bqv; omega) htr
        split at hx'
        · injection hx' with hx'
          subst hx'
          exact g1
        · rename_i hk
          obtain ⟨r2, h2, hx'⟩ := Option.bind_eq_some_iff.mp hx'
          injection hx' with hx'
          subst hx'
          have e2 := cmpO_ok hk
          exact hF_app g1 (hF_app (iA 6 (by decide) _ _ _ _ _ hd h2 (h + 1) tr l (by omega) (by have := bqv; omega) htr) (hF_bin (by omega) hl (by omega) htr))
      · exact hL _ _ _ _ _ (by decide) (by decide) hd hx' h tr l hl (by have := bqv; omega) (by have := bqv; omega) htr
      · exact absurd ht (by decide)
      · exact hL _ _ _ _ _ (by decide) (by decide) hd hx' h tr l hl (by have := bqv; omega) (by have := bqv; omega) htr
      · exact absurd ht (by decide)
      · exact hU _ _ _ _ _ _ _ (Or.inr rfl) (by decide) (by decide) hd hx' h tr l hl (by omega) (by have := bqv; omega) (fun hd' => by have := be_s hd'; have := bqv; omega) htr
      · unfold pxL at hx'
        obtain ⟨r1, h1, hx'⟩ := Option.bind_eq_some_iff.mp hx'
        obtain ⟨r2, h2, hx'⟩ := Option.bind_eq_some_iff.mp hx'
        injection hx' with hx'
        subst hx'
        obtain ⟨l0, g1, g2⟩ := iF _ _ _ _ _ hd h1 h tr l hl (by have := bqv; omega) htr
        exact hF_app g2 (iE _ _ _ _ _ hd h2 h tr l l0 g1 hl (by have := bqv; omega) htr)
      · exact absurd ht (by decide)
      · exact absurd ht (by decide)
      · exact absurd ht (by decide)
      · rename_i n0 n1 n2 n3 n4 n5 n6 n7 n8 n9 n10 n11 n12 n13 n14
        simp only [List.mem_cons, List.not_mem_nil, or_false] at ht
        rcases ht with e | e | e | e | e | e | e | e
        · exact absurd e n0
        · exact absurd e n2
        · exact absurd e n4
        · exact absurd e n5
        · exact absurd e n6
        · exact absurd e n8
        · exact absurd e n10
        · exact absurd e n11
    · intro t ht d k a b r hd hx h tr l hl hh htr
      have h4 := be_4 d
      have bv := bqv
      have hx' : pxS K (px K F) t d k a b = some r := hx
      unfold pxS at hx'
      split at hx'
      · exact absurd ht (by decide)
      · exact hJ _ _ _ _ _ _ _ _ (Or.inr rfl) (by decide) (by decide) hd hx' h tr l hl (by omega) (by have := bqv; omega) (by have := bqv; omega) htr
      · exact absurd ht (by decide)
      · exact hJ _ _ _ _ _ _ _ _ (Or.inl rfl) (by decide) (by decide) hd hx' h tr l hl (by omega) (by have := bqv; omega) (by have := bqv; omega) htr
      · exact absurd ht (by decide)
      · exact absurd ht (by decide)
      · exact absurd ht (by decide)
      · exact hO _ _ _ _ _ _ _ (fun x hx => sumO_p hx) (by decide) (by decide) hd hx' h tr l hl (by have := bqv; omega) (by have := bqv; omega) htr (by omega)
      · exact absurd ht (by decide)
      · exact hO _ _ _ _ _ _ _ (fun x hx => trmO_p hx) (by decide) (by decide) hd hx' h tr l hl (by have := bqv; omega) (by have := bqv; omega) htr (by omega)
      · exact absurd ht (by decide)
      · exact absurd ht (by decide)
      · exact h12 _ _ _ _ _ hd hx h tr l l (Or.inl rfl) hl hh htr
      · exact absurd ht (by decide)
      · exact absurd ht (by decide)
      · rename_i n0 n1 n2 n3 n4 n5 n6 n7 n8 n9 n10 n11 n12 n13 n14
        simp only [List.mem_cons, List.not_mem_nil, or_false] at ht
        rcases ht with e | e | e | e | e
        · exact absurd e n1
        · exact absurd e n3
        · exact absurd e n7
        · exact absurd e n9
        · exact absurd e n12
    · intro d k a b r hd hx hb ha
      have hx' : px13 K (px K F) d k a b = some r := hx
      have hm : most b ≤ 40 := by unfold most; split <;> (try split) <;> omega
      unfold px13 at hx'
      split at hx'
      · rename_i h0
        injection hx' with hx'
        subst hx'
        refine ⟨Nat.zero_le _, fun h tr l _ _ _ => ?_⟩
        rw [h0.1]
        exact hF_nil
      split at hx'
      · cases hx'
      rename_i ha'
      obtain ⟨r1, h1, hx'⟩ := Option.bind_eq_some_iff.mp hx'
      split at hx'
      · injection hx' with hx'
        subst hx'
        exact ⟨by show a + 1 ≤ _; omega, fun h tr l hl hh htr => iA 0 (by decide) _ _ _ _ r1 hd h1 (h + a) tr l (by omega) (by have := bqv; omega) htr⟩
      split at hx'
      · obtain ⟨r2, h2, hx'⟩ := Option.bind_eq_some_iff.mp hx'
        injection hx' with hx'
        subst hx'
        obtain ⟨g1, g2⟩ := iC _ _ _ _ _ hd h2 hb (by omega)
        exact ⟨g1, fun h tr l hl hh htr => hF_app (iA 0 (by decide) _ _ _ _ _ hd h1 (h + a) tr l (by omega) (by have := bqv; omega) htr) (g2 h tr l hl hh htr)⟩
      · cases hx'
    · intro d k a b r hd hx ha
      have hx' : px14 K (px K F) d k a = some r := hx
      unfold px14 at hx'
      split at hx'
      · rename_i h0
        injection hx' with hx'
        subst hx'
        refine ⟨Nat.zero_le _, fun h tr l _ _ _ => ?_⟩
        rw [h0.1]
        exact hF_nil
      split at hx'
      · cases hx'
      rename_i ha'
      obtain ⟨r1, h1, hx'⟩ := Option.bind_eq_some_iff.mp hx'
      split at hx'
      · obtain ⟨r3, h3, hx'⟩ := Option.bind_eq_some_iff.mp hx'
        have two : ∀ h tr l, lob l ≤ h → h + 39 + be d ≤ 600 → tr ≤ 10 → hF K l.2 (r1.2.2 ++ r3.2.2) (some (h + 2 * a, tr, l)) (some (h + 2 * (a + 1), tr, l)) := fun h tr l hl hh htr => hF_app (iA 0 (by decide) _ _ _ _ _ hd h1 (h + 2 * a) tr l (by omega) (by have := bqv; omega) htr) (iA 0 (by decide) _ _ _ _ _ hd h3 (h + 2 * a + 1) tr l (by omega) (by have := bqv; omega) htr)
        split at hx'
        · injection hx' with hx'
          subst hx'
          exact ⟨by show a + 1 ≤ _; omega, two⟩
        split at hx'
        · obtain ⟨r2, h2, hx'⟩ := Option.bind_eq_some_iff.mp hx'
          injection hx' with hx'
          subst hx'
          obtain ⟨g1, g2⟩ := iD _ _ _ _ _ hd h2 (by omega)
          refine ⟨g1, fun h tr l hl hh htr => ?_⟩
          have := hF_app (two h tr l hl hh htr) (g2 h tr l hl hh htr)
          rw [List.append_assoc] at this
          exact this
        · cases hx'
      · cases hx'
    · intro d k a b r hd hx h tr l hl hh' htr
      have h4 := be_4 d
      have bv := bqv
      have hx' : px15 K (px K F) d k = some r := hx
      unfold px15 at hx'
      split at hx'
      · injection hx' with hx'
        subst hx'
        dsimp only
        by_cases h6 : K (k + 1) = 6
        · rw [if_pos h6]
          exact ⟨_, Or.inr ⟨h6, rfl⟩, hF_21 (fun _ _ => Or.inl (Nat.le_refl _)) hl (by omega) htr⟩
        · rw [if_neg h6]
          exact ⟨l, Or.inl rfl, hF_put (by omega) (fun _ _ => Or.inl (Nat.le_refl _)) hl (by omega) htr⟩
      split at hx'
      · injection hx' with hx'
        subst hx'
        exact ⟨l, Or.inl rfl, hF_put (by omega) (hnm_n (by dsimp only; omega)) hl (by omega) htr⟩
      split at hx'
      · split at hx'
        · cases hx'
        rename_i hd'
        have e1 := be_s hd'
        obtain ⟨r1, h1, hx'⟩ := Option.bind_eq_some_iff.mp hx'
        split at hx'
        · injection hx' with hx'
          subst hx'
          exact ⟨l, Or.inl rfl, iA 0 (by decide) _ _ _ _ r1 (by omega) h1 h tr l hl (by have := bqv; omega) htr⟩
        · cases hx'
      split at hx'
      · split at hx'
        · cases hx'
        rename_i hd'
        have e1 := be_s hd'
        obtain ⟨r1, h1, hx'⟩ := Option.bind_eq_some_iff.mp hx'
        injection hx' with hx'
        subst hx'
        obtain ⟨g1, g2⟩ := iC _ _ _ _ _ (by omega) h1 (Or.inr rfl) (Nat.zero_le _)
        have g1' : r1.2.1 ≤ 40 := g1
        exact ⟨l, Or.inl rfl, hF_app (g2 h tr l hl (by omega) htr) (hF_lst g1' hl (by have := be_4 (d + 1); omega) htr)⟩
      split at hx'
      · split at hx'
        · cases hx'
        rename_i hd'
        have e1 := be_s hd'
        obtain ⟨r1, h1, hx'⟩ := Option.bind_eq_some_iff.mp hx'
        injection hx' with hx'
        subst hx'
        obtain ⟨g1, g2⟩ := iD _ _ _ _ _ (by omega) h1 (Nat.zero_le _)
        exact ⟨l, Or.inl rfl, hF_app (g2 h tr l hl (by omega) htr) (hF_dct g1 hl (by have := be_4 (d + 1); omega) htr)⟩
      · cases hx'
end
