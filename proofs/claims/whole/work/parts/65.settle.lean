/-! SETTLE: by the order in which what is dead has gone -/
theorem len_count0 {n : Nat} : ∀ {l : List Nat}, (∀ x, x ∈ l → x < n) → sumN (fun k => l.count k) n = l.length := by
  intro l
  induction l with
  | nil => intro _; exact sumN_z (fun k _ => List.count_nil)
  | cons x l ih =>
    intro h
    have hx := h x List.mem_cons_self
    have e1 : sumN (fun k => (x :: l).count k) n = sumN (fun k => l.count k + (if x = k then 1 else 0)) n := sumN_congr (fun k _ => count_cons' _ _ _)
    have e2 := sumN_upd (f := fun _ => 0) (g := fun k => if x = k then 1 else 0) (k := x) (fun i hi => if_neg (fun e => hi e.symm)) (n := n) hx
    have e3 : sumN (fun _ => 0) n = 0 := sumN_z (fun _ _ => rfl)
    rw [e1, sumN_add, ih (fun y hy => h y (List.mem_cons_of_mem _ hy)), List.length_cons]
    simp only [if_true, e3] at e2
    omega
theorem nodup_len0 {n : Nat} {l : List Nat} (h : l.Nodup) (hb : ∀ x, x ∈ l → x < n) : l.length ≤ n := by
  have h1 := len_count0 hb
  have h2 := sumN_le (f := fun k => l.count k) (c := 1) (n := n) (fun k _ => nodup_count h _)
  omega
theorem sumN_ex {f : Nat → Nat} {n : Nat} (h : 0 < sumN f n) : ∃ k, k < n ∧ 0 < f k := by
  apply Classical.byContradiction
  intro hc
  have : sumN f n = 0 := sumN_z (fun k hk => by
    rcases Nat.eq_zero_or_pos (f k) with e | e
    · exact e
    · exact absurd ⟨k, hk, e⟩ hc)
  omega
/-- holds by things that have not gone -/
def rH (S : cS) (R : List Nat) (k : Nat) : Nat := sumN (fun j => if sA S 87 j = 0 ∨ j ∈ R then 0 else (rtgs S j).count (k + 1)) 1500
theorem rH_add {S : cS} {R : List Nat} {g k : Nat} (hg : g < 1500) (hl : sA S 87 g ≠ 0) (hR : g ∉ R) : rH S R k = rH S (R ++ [g]) k + (rtgs S g).count (k + 1) := by
  have := sumN_upd (f := fun j => if sA S 87 j = 0 ∨ j ∈ R ++ [g] then 0 else (rtgs S j).count (k + 1)) (g := fun j => if sA S 87 j = 0 ∨ j ∈ R then 0 else (rtgs S j).count (k + 1)) (k := g) (fun i hi => by
    show (if sA S 87 i = 0 ∨ i ∈ R then 0 else (rtgs S i).count (k + 1)) = if sA S 87 i = 0 ∨ i ∈ R ++ [g] then 0 else (rtgs S i).count (k + 1)
    have : i ∈ R ++ [g] ↔ i ∈ R := ⟨fun h => (List.mem_append.mp h).elim id (fun h => absurd (List.mem_singleton.mp h) hi), fun h => List.mem_append_left _ h⟩
    simp only [this]) (n := 1500) (by omega)
  simp only [if_pos (Or.inr (List.mem_append_right R (List.mem_singleton.mpr rfl))), if_neg (fun c : sA S 87 g = 0 ∨ g ∈ R => c.elim hl hR)] at this
  show sumN _ 1500 = sumN _ 1500 + _
  omega
theorem rH_pos {S : cS} {R : List Nat} {j k : Nat} (hj : j < 1500) (hl : sA S 87 j ≠ 0) (hR : j ∉ R) (ht : k + 1 ∈ rtgs S j) : 0 < rH S R k := by
  have h1 := sumN_pos (f := fun j => if sA S 87 j = 0 ∨ j ∈ R then 0 else (rtgs S j).count (k + 1)) (k := j) (n := 1500) hj
  simp only [if_neg (fun c : sA S 87 j = 0 ∨ j ∈ R => c.elim hl hR)] at h1
  have h2 := List.count_pos_iff.mpr ht
  show 0 < sumN _ 1500
  omega
theorem rH_ex {S : cS} {R : List Nat} {k : Nat} (h : 0 < rH S R k) : ∃ j, j < 1500 ∧ sA S 87 j ≠ 0 ∧ j ∉ R ∧ k + 1 ∈ rtgs S j := by
  obtain ⟨j, hj, h1⟩ := sumN_ex h
  by_cases hc : sA S 87 j = 0 ∨ j ∈ R
  · rw [if_pos hc] at h1; omega
  · rw [if_neg hc] at h1
    exact ⟨j, hj, fun e => hc (Or.inl e), fun e => hc (Or.inr e), List.count_pos_iff.mp h1⟩
theorem rH_nil {S : cS} {k : Nat} : rH S [] k = rHeld S k := sumN_congr (fun j _ => by
  show (if sA S 87 j = 0 ∨ j ∈ [] then 0 else (rtgs S j).count (k + 1)) = if sA S 87 j = 0 then 0 else (rtgs S j).count (k + 1)
  simp only [List.not_mem_nil, or_false])
theorem rH_le {S : cS} {R : List Nat} {k : Nat} (hok : ∀ j, j < 1500 → sA S 87 j ≠ 0 → (rtgs S j).length ≤ 1000) : rH S R k ≤ 1500000 := by
  have := sumN_le (f := fun j => if sA S 87 j = 0 ∨ j ∈ R then 0 else (rtgs S j).count (k + 1)) (c := 1000) (n := 1500) (fun j hj => by
    show (if sA S 87 j = 0 ∨ j ∈ R then 0 else (rtgs S j).count (k + 1)) ≤ 1000
    by_cases hc : sA S 87 j = 0 ∨ j ∈ R
    · rw [if_pos hc]; omega
    · rw [if_neg hc]
      exact Nat.le_trans List.count_le_length (hok j hj (fun e => hc (Or.inl e))))
  show sumN _ 1500 ≤ _
  omega
def rRoot (S : cS) (k : Nat) : Nat := (nmL S).count (k + 1) + (wkL S).count (k + 1)
/-- the dead, in an order in which they went: none is held by what lives, each only by earlier ones -/
def rDead (S : cS) (D : List Nat) : Prop := D.Nodup ∧ (∀ x, x ∈ D → x < 1500 ∧ sA S 87 x ≠ 0 ∧ rRoot S x = 0) ∧ (∀ j, j < 1500 → sA S 87 j ≠ 0 → j ∉ D → ∀ x, x ∈ D → x + 1 ∉ rtgs S j) ∧ D.Pairwise (fun x y => x + 1 ∉ rtgs S y) ∧ (∀ x, x ∈ D → x + 1 ∉ rtgs S x) ∧ (∀ k, k < 1500 → sA S 87 k ≠ 0 → k ∉ D → 0 < rRoot S k ∨ ∃ j, j < 1500 ∧ sA S 87 j ≠ 0 ∧ j ∉ D ∧ k + 1 ∈ rtgs S j)
/-- how large a thing can be -/
def rSm (S : cS) : Prop := (∀ j, j < 1500 → sA S 87 j ≠ 0 → (rtgs S j).length ≤ 1000) ∧ (∀ k, k < 1500 → rRoot S k ≤ 1000000)
/-- settle under way: R what is done with, l what is to be looked at yet -/
def SI (S0 : cS) (D R l ws : List Nat) (S : cS) : Prop := Fr [] [87, 89, 90] S0 S ∧ (∀ i x, ws[i]? = some x → sA S 90 i = nI x) ∧ (R ++ ws).Nodup ∧ (∀ x, x ∈ R ++ ws → x ∈ D) ∧ (∀ k, k < 1500 → sA S 87 k = if k ∈ R ++ ws then 0 else sA S0 87 k) ∧ (∀ k, k < 1500 → sA S 89 k = nI (rRoot S0 k + rH S0 R k)) ∧ (∀ k, k < 1500 → sA S 87 k ≠ 0 → 0 < rRoot S0 k + rH S0 R k ∨ k + 1 ∈ l)
theorem dead_of {S0 : cS} {D R : List Nat} {k : Nat} (hD : rDead S0 D) (hR : ∀ x, x ∈ R → x ∈ D) (hk : k < 1500) (hl : sA S0 87 k ≠ 0) (h0 : rRoot S0 k + rH S0 R k = 0) : k ∈ D := by
  apply Classical.byContradiction
  intro hn
  rcases hD.2.2.2.2.2 k hk hl hn with h | ⟨j, h1, h2, h3, h4⟩
  · omega
  · have := rH_pos (R := R) h1 h2 (fun h => h3 (hR j h)) h4
    omega
theorem nar0 : vp_nar .boolean (nI 0) = 0 := by decide
theorem push_at {S : cS} {ws : List Nat} {k : Nat} (hw : ∀ i x, ws[i]? = some x → sA S 90 i = nI x) {S' : cS} (e : sA S' 90 = upd (sA S 90) ws.length (nI k)) : ∀ i x, (ws ++ [k])[i]? = some x → sA S' 90 i = nI x := by
  intro i x hx
  rw [e, upd_at]
  by_cases hi : i < ws.length
  · rw [List.getElem?_append_left hi] at hx
    rw [if_neg (by omega)]
    exact hw i x hx
  · rw [List.getElem?_append_right (by omega)] at hx
    by_cases h2 : i = ws.length
    · subst h2
      rw [Nat.sub_self] at hx
      obtain rfl : k = x := Option.some.inj hx
      rw [if_pos rfl]
    · rw [List.getElem?_eq_none (by rw [List.length_singleton]; omega)] at hx
      cases hx
theorem SI_len {S0 S : cS} {D R l ws : List Nat} {k : Nat} (hD : rDead S0 D) (h : SI S0 D R l ws S) (hk : k < 1500) (hl : sA S 87 k ≠ 0) : ws.length < 1500 := by
  obtain ⟨_, _, hn, hm, h87, _⟩ := h
  have hkn : k ∉ R ++ ws := fun hc => by
    have := h87 k hk
    rw [if_pos hc] at this
    exact hl this
  have := nodup_len0 (n := 1500) (l := k :: ws) (List.nodup_cons.mpr ⟨fun hc => hkn (List.mem_append_right _ hc), (List.nodup_append.mp hn).2.1⟩) (fun x hx => by
    rcases List.mem_cons.mp hx with e | hx
    · omega
    · exact (hD.2.1 x (hm x (List.mem_append_right _ hx))).1)
  rw [List.length_cons] at this
  omega
/-- one more that goes -/
theorem SI_push {S0 S S' : cS} {D R l l2 ws : List Nat} {k : Nat} (hD : rDead S0 D) (h : SI S0 D R l ws S) (hk : k < 1500) (hl : sA S 87 k ≠ 0) (hg : ¬ 0 < sA S 89 k) (hsm : rSm S0) (hl2 : ∀ q, q < 1500 → q + 1 ∈ l → q = k ∨ q + 1 ∈ l2) (hF : Fr [] [87, 90] S S') (e87 : sA S' 87 = upd (sA S 87) k 0) (e90 : sA S' 90 = upd (sA S 90) ws.length (nI k)) : SI S0 D R l2 (ws ++ [k]) S' := by
  obtain ⟨hF0, hw, hn, hm, h87, h89, hpos⟩ := h
  have hkn : k ∉ R ++ ws := fun hc => by
    have := h87 k hk
    rw [if_pos hc] at this
    exact hl this
  have hl0 : sA S0 87 k ≠ 0 := by
    have := h87 k hk
    rw [if_neg hkn] at this
    rw [← this]
    exact hl
  have hz : rRoot S0 k + rH S0 R k = 0 := by
    rcases Nat.eq_zero_or_pos (rRoot S0 k + rH S0 R k) with e | e
    · exact e
    · have h1 := rH_le (R := R) (k := k) hsm.1
      have h2 := hsm.2 k hk
      exact absurd (by rw [h89 k hk]; exact nI_lt (a := 0) e (by omega)) hg
  have hkD : k ∈ D := dead_of hD (fun x hx => hm x (List.mem_append_left _ hx)) hk hl0 hz
  refine ⟨hF0.trans (hF.mono (fun _ h => h) (fun a ha => by
    rcases List.mem_cons.mp ha with e | ha
    · rw [e]; decide
    · rw [List.mem_singleton.mp ha]; decide)), push_at hw e90, ?_, ?_, ?_, ?_, ?_⟩
  · rw [← List.append_assoc, List.nodup_append]
    exact ⟨hn, nd_one k, fun a ha b hb e => hkn (by rw [List.mem_singleton.mp hb] at e; exact e ▸ ha)⟩
  · intro x hx
    rw [← List.append_assoc] at hx
    rcases List.mem_append.mp hx with hx | hx
    · exact hm x hx
    · rw [List.mem_singleton.mp hx]; exact hkD
  · intro q hq
    rw [e87, upd_at, ← List.append_assoc]
    by_cases e : q = k
    · subst e
      rw [if_pos rfl, if_pos (List.mem_append_right _ (List.mem_singleton.mpr rfl))]
    · rw [if_neg e, h87 q hq]
      have : q ∈ R ++ ws ++ [k] ↔ q ∈ R ++ ws := ⟨fun h => (List.mem_append.mp h).elim id (fun h => absurd (List.mem_singleton.mp h) e), fun h => List.mem_append_left _ h⟩
      simp only [this]
  · intro q hq
    rw [hF.A (by decide)]
    exact h89 q hq
  · intro q hq hlq
    rw [e87, upd_at] at hlq
    by_cases e : q = k
    · rw [if_pos e] at hlq
      exact absurd rfl hlq
    · rw [if_neg e] at hlq
      rcases hpos q hq hlq with h | h
      · exact Or.inl h
      · exact Or.inr ((hl2 q hq h).resolve_left e)
theorem SI_dO {S0 : cS} {D R l : List Nat} {o : Nat} {p : cS × Nat} (hD : rDead S0 D) (hsm : rSm S0) (ho : o ≤ 1500) (h : ∃ ws, p.2 = ws.length ∧ SI S0 D R (o :: l) ws p.1) : ∃ ws, (dO p o).2 = ws.length ∧ SI S0 D R l ws (dO p o).1 := by
  obtain ⟨ws, hn, hI⟩ := h
  unfold dO
  cases o with
  | zero =>
    rw [if_pos rfl]
    obtain ⟨h1, h2, h3, h4, h5, h6, h7⟩ := hI
    exact ⟨ws, hn, h1, h2, h3, h4, h5, h6, fun k hk hl => (h7 k hk hl).imp id (fun h => (List.mem_cons.mp h).resolve_left (by omega))⟩
  | succ k =>
    rw [if_neg (show ¬ k + 1 = 0 by omega), Nat.add_sub_cancel]
    by_cases hc : sA p.1 87 k = 0 ∨ 0 < sA p.1 89 k
    · rw [if_pos hc]
      obtain ⟨h1, h2, h3, h4, h5, h6, h7⟩ := hI
      refine ⟨ws, hn, h1, h2, h3, h4, h5, h6, fun q hq hl => ?_⟩
      rcases h7 q hq hl with h | h
      · exact Or.inl h
      · rcases List.mem_cons.mp h with e | h
        · obtain rfl : q = k := by omega
          rcases hc with hc | hc
          · exact absurd hc hl
          · refine Or.inl ?_
            rcases Nat.eq_zero_or_pos (rRoot S0 q + rH S0 R q) with e0 | e0
            · rw [h6 q hq, e0] at hc
              exact absurd hc (by decide)
            · exact e0
        · exact Or.inr h
    · rw [if_neg hc]
      refine ⟨ws ++ [k], by rw [hn, List.length_append]; rfl, SI_push hD hI (by omega) (fun e => hc (Or.inl e)) (fun e => hc (Or.inr e)) hsm (fun q _ hq => (List.mem_cons.mp hq).imp (fun e => by omega) id) (Fr_wA (by decide) (Fr_wA (by decide) (Fr.refl _ _ _))) ?_ ?_⟩
      · rw [rAn _ _ _ (by decide), rAe, nar0]
      · rw [rAe, rAn _ _ _ (by decide), hn]
theorem SI_turn {d g : Nat} {S0 S : cS} {D R ws : List Nat} (hW : ∀ k, k < 1500 → sA S0 87 k ≠ 0 → r_ok S0 k) (hD : rDead S0 D) (hsm : rSm S0) (h : SI S0 D R [] (ws ++ [g]) S) : ∃ S1 S2 ws', Ans (d + 2) 370 [.ref 61, .ref (r_t S g), .int (Int32.ofInt (-1))] S none S1 ∧ Ans (d + 2) 372 [.ref 61, .ref (r_t S g), .int (nI ws.length)] S1 (some (.int (nI ws'.length))) S2 ∧ SI S0 D (R ++ [g]) [] ws' S2 ∧ r_ok S g ∧ g < 1500 := by
  obtain ⟨hF, hw, hn, hm, h87, h89, hpos⟩ := h
  have hgm : g ∈ R ++ (ws ++ [g]) := List.mem_append_right _ (List.mem_append_right _ (List.mem_singleton.mpr rfl))
  obtain ⟨hg1, hg2, hg3⟩ := hD.2.1 g (hm g hgm)
  have hok0 := hW g hg1 hg2
  have hL : ∀ a, a ∈ [87, 89, 90] → a < 108 := by decide
  have hok := r_ok_Fr hF (fun _ h => by cases h) hL hok0
  have htg := rtgs_Fr hF (fun _ h => by cases h) hL hok0
  have hgR : g ∉ R := fun hc => (List.nodup_append.mp hn).2.2 g hc g (List.mem_append_right _ (List.mem_singleton.mpr rfl)) rfl
  have hF1 := tK_fold (Int32.ofInt (-1)) (rtgs S g) S
  have hS1 : SI S0 D (R ++ [g]) (rtgs S g) ws ((rtgs S g).foldl (tK (Int32.ofInt (-1))) S) := by
    refine ⟨hF.trans (hF1.mono (fun _ h => h) (fun a ha => by rw [List.mem_singleton.mp ha]; decide)), ?_, ?_, ?_, ?_, ?_, ?_⟩
    · intro i x hx
      rw [hF1.A (by decide)]
      exact hw i x (by
        rw [List.getElem?_append_left]
        · exact hx
        · rcases Nat.lt_or_ge i ws.length with q | q
          · exact q
          · rw [List.getElem?_eq_none q] at hx; cases hx)
    · rw [List.append_assoc]
      exact (List.Perm.nodup_iff (List.Perm.append_left R List.perm_append_comm)).mp hn
    · intro x hx
      rw [List.append_assoc] at hx
      rcases List.mem_append.mp hx with hx | hx
      · exact hm x (List.mem_append_left _ hx)
      · exact hm x (List.mem_append_right _ ((List.mem_append.mp hx).elim (List.mem_append_right _) (List.mem_append_left _)))
    · intro k hk
      rw [hF1.A (by decide), h87 k hk]
      have : k ∈ R ++ (ws ++ [g]) ↔ k ∈ R ++ [g] ++ ws := by
        rw [List.append_assoc, List.mem_append, List.mem_append, List.mem_append, List.mem_append]
        exact ⟨fun h => h.imp id Or.symm, fun h => h.imp id Or.symm⟩
      simp only [this]
    · intro k hk
      rw [hold_sub (h := fun k => rRoot S0 k + rH S0 R k) (rtgs_le hok) (fun q hq => ⟨h89 q hq, by
        show _ ≤ rRoot S0 q + rH S0 R q
        rw [rH_add hg1 hg2 hgR, htg]; omega⟩) hk, htg, rH_add hg1 hg2 hgR]
      exact congrArg nI (by omega)
    · intro k hk hl
      rw [hF1.A (by decide)] at hl
      rcases hpos k hk hl with h | h
      · rw [rH_add hg1 hg2 hgR] at h
        rcases Nat.eq_zero_or_pos ((rtgs S0 g).count (k + 1)) with e | e
        · exact Or.inl (by omega)
        · exact Or.inr (by rw [htg]; exact List.count_pos_iff.mp e)
      · cases h
  have hok1 := r_ok_Fr hF1 (fun _ h => by cases h) (fun a ha => by rw [List.mem_singleton.mp ha]; decide) hok
  have htg1 := rtgs_Fr hF1 (fun _ h => by cases h) (fun a ha => by rw [List.mem_singleton.mp ha]; decide) hok
  have ht1 : r_t ((rtgs S g).foldl (tK (Int32.ofInt (-1))) S) g = r_t S g := by unfold r_t; rw [hF1.2.2.2.1]
  have hP2 : ∀ (o : Nat) (l : List Nat) (p : cS × Nat), ((∀ q, q ∈ o :: l → q ≤ 1500) ∧ ∃ ws, p.2 = ws.length ∧ SI S0 D (R ++ [g]) (o :: l) ws p.1) → ((∀ q, q ∈ l → q ≤ 1500) ∧ ∃ ws, (dO p o).2 = ws.length ∧ SI S0 D (R ++ [g]) l ws (dO p o).1) := fun o l p hp => ⟨fun q hq => hp.1 q (List.mem_cons_of_mem _ hq), SI_dO hD hsm (hp.1 o List.mem_cons_self) hp.2⟩
  have hst : (∀ q, q ∈ rtgs ((rtgs S g).foldl (tK (Int32.ofInt (-1))) S) g → q ≤ 1500) ∧ ∃ ws', ws.length = ws'.length ∧ SI S0 D (R ++ [g]) (rtgs ((rtgs S g).foldl (tK (Int32.ofInt (-1))) S) g) ws' ((rtgs S g).foldl (tK (Int32.ofInt (-1))) S) := ⟨rtgs_le hok1, ws, rfl, by rw [htg1]; exact hS1⟩
  have hdr := drop_k (d := d) (n0 := ws.length) (P := fun l p => (∀ q, q ∈ l → q ≤ 1500) ∧ ∃ ws, p.2 = ws.length ∧ SI S0 D (R ++ [g]) l ws p.1) (fun o l p hp h0 hl => by
    obtain ⟨hq, ws2, e, hI⟩ := hp
    rw [e]
    have := hq o List.mem_cons_self
    exact SI_len hD hI (k := o - 1) (by omega) hl) hP2 hok1 hst
  have hfold : ∀ (l : List Nat) (p : cS × Nat), ((∀ q, q ∈ l → q ≤ 1500) ∧ ∃ ws, p.2 = ws.length ∧ SI S0 D (R ++ [g]) l ws p.1) → ∃ ws, (l.foldl dO p).2 = ws.length ∧ SI S0 D (R ++ [g]) [] ws (l.foldl dO p).1 := by
    intro l
    induction l with
    | nil => intro p hp; exact hp.2
    | cons o l ih => intro p hp; exact ih _ (hP2 o l p hp)
  obtain ⟨ws', e, hI⟩ := hfold _ (_, ws.length) hst
  rw [e, ht1] at hdr
  exact ⟨_, _, ws', holdAll_k hok, hdr, hI, hok, hg1⟩
theorem SI_loop {d : Nat} {S0 : cS} {D : List Nat} (hW : ∀ k, k < 1500 → sA S0 87 k ≠ 0 → r_ok S0 k) (hD : rDead S0 D) (hsm : rSm S0) : ∀ (n x : Nat) (R ws : List Nat) (S : cS), R.length + n = 1500 → SI S0 D R [] ws S → ∃ S' R', Bod (d + 3) 366 64 (sm_p1 (sm_p1 (lv_args 0 [.ref 61]) 2 (.ref x)) 1 (.int (nI ws.length))) [] S none S' ∧ SI S0 D R' [] [] S' := by
  intro n
  induction n with
  | zero =>
    intro x R ws S hn h
    rcases list_last ws with rfl | ⟨ws1, g, rfl⟩
    · exact ⟨S, R, st_outB, h⟩
    · have := nodup_len0 (n := 1500) h.2.2.1 (fun q hq => (hD.2.1 q (h.2.2.2.1 q hq)).1)
      rw [List.length_append, List.length_append, List.length_singleton] at this
      omega
  | succ n ih =>
    intro x R ws S hn h
    rcases list_last ws with rfl | ⟨ws1, g, rfl⟩
    · exact ⟨S, R, st_outB, h⟩
    · obtain ⟨S1, S2, ws', hH, hDr, hI, hok, hg⟩ := SI_turn (d := d + 1) hW hD hsm h
      have hlen := nodup_len0 (n := 1500) h.2.2.1 (fun q hq => (hD.2.1 q (h.2.2.2.1 q hq)).1)
      rw [List.length_append, List.length_append, List.length_singleton] at hlen
      obtain ⟨N, q1, q2, q3⟩ := r_ok_t hok
      obtain ⟨S', R', hb, hI'⟩ := ih (r_t S g) (R ++ [g]) ws' S2 (by rw [List.length_append, List.length_singleton]; omega) hI
      refine ⟨S', R', ?_, hI'⟩
      rw [List.length_append, List.length_singleton]
      exact st_turnB (m := ws1.length) (by omega) (h.2.1 _ _ (by rw [List.getElem?_append_right (Nat.le_refl _), Nat.sub_self]; rfl)) hg q1 q2 q3 hH hDr hb
theorem SI_scan {d : Nat} {S0 : cS} {D : List Nat} (hD : rDead S0 D) (hsm : rSm S0) : ∀ (r k : Nat) (ws : List Nat) (S : cS), k + r = 1500 → SI S0 D [] ((List.range 1501).drop (k + 1)) ws S → (∀ ws2 S2, SI S0 D [] [] ws2 S2 → ∃ Sf, Bod (d + 3) 366 64 (sm_p1 (sm_p1 (lv_args 0 [.ref 61]) 1 (.int (nI ws2.length))) 2 (.int (nI 1500))) [] S2 none Sf ∧ ∃ R', SI S0 D R' [] [] Sf) → ∃ Sf, Bod (d + 3) 366 13 (sm_p1 (sm_p1 (lv_args 0 [.ref 61]) 1 (.int (nI ws.length))) 2 (.int (nI k))) [] S none Sf ∧ ∃ R', SI S0 D R' [] [] Sf := by
  intro r
  induction r with
  | zero =>
    intro k ws S hk h hn
    obtain rfl : k = 1500 := by omega
    have e : (List.range 1501).drop (1500 + 1) = [] := List.drop_eq_nil_of_le (by rw [List.length_range]; omega)
    rw [e] at h
    obtain ⟨Sf, hb, hR⟩ := hn ws S h
    exact ⟨Sf, st_mid rfl hb, hR⟩
  | succ r ih =>
    intro k ws S hk h hn
    have e : (List.range 1501).drop (k + 1) = (k + 1) :: (List.range 1501).drop (k + 1 + 1) := by
      rw [List.drop_eq_getElem_cons (by rw [List.length_range]; omega), List.getElem_range]
    rw [e] at h
    by_cases hc : sA S 87 k = 0 ∨ 0 < sA S 89 k
    · have h2 : SI S0 D [] ((List.range 1501).drop (k + 1 + 1)) ws S := by
        have := SI_dO (p := (S, ws.length)) hD hsm (by omega) ⟨ws, rfl, h⟩
        obtain ⟨h1, h2, h3, h4, h5, h6, h7⟩ := h
        refine ⟨h1, h2, h3, h4, h5, h6, fun q hq hl => ?_⟩
        rcases h7 q hq hl with h | h
        · exact Or.inl h
        · rcases List.mem_cons.mp h with e | h
          · obtain rfl : q = k := by omega
            rcases hc with hc | hc
            · exact absurd hc hl
            · refine Or.inl ?_
              rcases Nat.eq_zero_or_pos (rRoot S0 q + rH S0 [] q) with e0 | e0
              · rw [h6 q hq, e0] at hc
                exact absurd hc (by decide)
              · exact e0
          · exact Or.inr h
      obtain ⟨Sf, hb, hR⟩ := ih (k + 1) ws S (by omega) h2 hn
      by_cases he : sA S 87 k = 0
      · exact ⟨Sf, st_dead (by omega) he hb, hR⟩
      · exact ⟨Sf, st_held (by omega) he (hc.resolve_left he) hb, hR⟩
    · have hl : sA S 87 k ≠ 0 := fun e => hc (Or.inl e)
      have hg : ¬ 0 < sA S 89 k := fun e => hc (Or.inr e)
      have hlen := SI_len hD h (k := k) (by omega) hl
      have hp := SI_push (S' := wA 87 k (vp_nar .boolean (nI 0)) (wA 90 ws.length (nI k) S)) hD h (by omega) hl hg hsm (l2 := (List.range 1501).drop (k + 1 + 1)) (fun q _ hq => (List.mem_cons.mp hq).imp (fun e => by omega) id) (Fr_wA (by decide) (Fr_wA (by decide) (Fr.refl _ _ _))) (by rw [rAe, rAn _ _ _ (by decide), nar0]) (by rw [rAn _ _ _ (by decide), rAe])
      obtain ⟨Sf, hb, hR⟩ := ih (k + 1) (ws ++ [k]) _ (by omega) hp hn
      rw [List.length_append, List.length_singleton] at hb
      exact ⟨Sf, st_go (by omega) hlen hl hg hb, hR⟩
theorem first_out {R : List Nat} : ∀ {D : List Nat}, (∃ x, x ∈ D ∧ x ∉ R) → ∃ a x b, D = a ++ x :: b ∧ x ∉ R ∧ ∀ y, y ∈ a → y ∈ R := by
  intro D
  induction D with
  | nil => rintro ⟨x, h, _⟩; cases h
  | cons y D ih =>
    rintro ⟨x, h, hx⟩
    by_cases hy : y ∈ R
    · rcases List.mem_cons.mp h with e | h
      · exact absurd (e ▸ hy) hx
      · obtain ⟨a, z, b, e, h1, h2⟩ := ih ⟨x, h, hx⟩
        refine ⟨y :: a, z, b, by rw [e]; rfl, h1, fun q hq => ?_⟩
        rcases List.mem_cons.mp hq with e | hq
        · rw [e]; exact hy
        · exact h2 q hq
    · exact ⟨[], y, D, rfl, hy, fun q hq => by cases hq⟩
theorem SI_end {S0 S : cS} {D R : List Nat} (hD : rDead S0 D) (h : SI S0 D R [] [] S) : ∀ k, k < 1500 → sA S 87 k = if k ∈ D then 0 else sA S0 87 k := by
  obtain ⟨hF, hw, hn, hm, h87, h89, hpos⟩ := h
  rw [List.append_nil] at hm h87
  have hDR : ∀ x, x ∈ D → x ∈ R := by
    intro x hx
    apply Classical.byContradiction
    intro hxR
    obtain ⟨a, y, b, e, hy, ha⟩ := first_out ⟨x, hx, hxR⟩
    have hyD : y ∈ D := by rw [e]; exact List.mem_append_right _ List.mem_cons_self
    obtain ⟨y1, y2, y3⟩ := hD.2.1 y hyD
    have := h87 y y1
    rw [if_neg hy] at this
    rcases hpos y y1 (by rw [this]; exact y2) with h | h
    · rw [y3, Nat.zero_add] at h
      obtain ⟨j, j1, j2, j3, j4⟩ := rH_ex h
      by_cases hjD : j ∈ D
      · rw [e] at hjD
        rcases List.mem_append.mp hjD with hj | hj
        · exact j3 (ha j hj)
        · rcases List.mem_cons.mp hj with hj | hj
          · exact hD.2.2.2.2.1 y hyD (hj ▸ j4)
          · have hp := hD.2.2.2.1
            rw [e, List.pairwise_append] at hp
            exact (List.pairwise_cons.mp hp.2.1).1 j hj j4
      · exact hD.2.2.1 j j1 j2 hjD y hyD j4
    · cases h
  intro k hk
  rw [h87 k hk]
  have : k ∈ R ↔ k ∈ D := ⟨hm k, hDR k⟩
  simp only [this]
theorem settle_ev {d : Nat} {S0 : cS} {D : List Nat} (hW : r_W S0) (hD : rDead S0 D) (hsm : rSm S0) : ∃ S', Ans (d + 4) 366 [.ref 61] S0 none S' ∧ Fr [] [87, 89, 90] S0 S' ∧ (∀ k, k < 1500 → sA S' 87 k = if k ∈ D then 0 else sA S0 87 k) := by
  obtain ⟨S1, hCN, hF1, h1⟩ := countNames_ev (d := d) hW
  have hwk : r_wk S1 := by
    obtain ⟨_, _, sp, c, q1, q2, q3, q4, q5, q6⟩ := hW
    refine ⟨sp, c, by rw [hF1.I List.not_mem_nil]; exact q1, q2, ?_, by rw [hF1.I List.not_mem_nil]; exact q4, q5, ?_⟩
    · rw [hF1.A (by decide), hF1.2.1]; exact q3
    · rw [hF1.A (by decide)]; exact q6
  obtain ⟨S2, hCW, hF2, h2⟩ := countWork_ev (d := d + 1) hwk h1
  have hwl : wkL S1 = wkL S0 := by
    unfold wkL
    rw [hF1.A (by decide), hF1.2.1, hF1.I List.not_mem_nil, hF1.I List.not_mem_nil, hF1.A (by decide)]
  have hF : Fr [] [89] S0 S2 := hF1.trans hF2
  have hS2 : SI S0 D [] ((List.range 1501).drop (0 + 1)) [] S2 := by
    refine ⟨hF.mono (fun _ h => h) (fun a ha => by rw [List.mem_singleton.mp ha]; decide), (fun i x hx => by cases hx), List.nodup_nil, (fun x hx => by cases hx), fun k hk => ?_, fun k hk => ?_, fun k hk hl => Or.inr ?_⟩
    · rw [List.append_nil, if_neg List.not_mem_nil, hF.A (by decide)]
    · rw [h2 k hk, rH_nil, hwl]
      exact congrArg nI (by unfold rRoot; omega)
    · exact List.mem_iff_getElem.mpr ⟨k, by rw [List.length_drop, List.length_range]; omega, by rw [List.getElem_drop, List.getElem_range]; omega⟩
  obtain ⟨Sf, hb, R', hR⟩ := SI_scan (d := d) hD hsm 1500 0 [] S2 (by omega) hS2 (fun ws2 S2 h => by
    rcases list_last ws2 with rfl | ⟨ws1, g, rfl⟩
    · exact ⟨S2, st_outA, [], h⟩
    · obtain ⟨Sa, Sb, ws', hH, hDr, hI, hok, hg⟩ := SI_turn (d := d + 1) hW.1 hD hsm h
      have hlen := nodup_len0 (n := 1500) h.2.2.1 (fun q hq => (hD.2.1 q (h.2.2.2.1 q hq)).1)
      rw [List.length_append, List.length_append, List.length_singleton] at hlen
      obtain ⟨N, q1, q2, q3⟩ := r_ok_t hok
      obtain ⟨S', R', hb, hI'⟩ := SI_loop (d := d) hW.1 hD hsm 1499 (r_t S2 g) [g] ws' Sb rfl hI
      refine ⟨S', ?_, R', hI'⟩
      rw [List.length_append, List.length_singleton]
      exact st_turnA (m := ws1.length) (by omega) (h.2.1 _ _ (by rw [List.getElem?_append_right (Nat.le_refl _), Nat.sub_self]; rfl)) hg q1 q2 q3 hH hDr hb)
  exact ⟨Sf, st_in hCN hCW hb, hR.1, SI_end hD hR⟩
