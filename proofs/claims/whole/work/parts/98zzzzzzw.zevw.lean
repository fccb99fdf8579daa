/-! WHERE NAMES ARE, PURE: how deep scopes lie -/
/-- from scope u it takes at most d steps outwards -/
def inD (l : List (Nat × Nat × Nat × Nat)) : Nat → Nat → Prop
  | 0, u => u = 0
  | d + 1, u => u = 0 ∨ ∃ e, l[u]? = some e ∧ inD l d e.1
/-- scopes are added, none deeper than 10 -/
def dR (sc sc' : SCs) : Prop := (∃ l, sc'.1 = sc.1 ++ l) ∧ ∀ u, sc.1.length ≤ u → u < sc'.1.length → inD sc'.1 10 u
def psD (R : RsT) : Prop := ∀ t dp ind s lp tr ca ra sc at' k x, R t dp ind s lp tr ca ra sc at' k = .inr x → inD sc.1 dp s → s < sc.1.length → (t = 2 ∨ t = 6 → dp ≤ 10) ∧ dR sc x.2.2.1
section
variable {K L I : Nat → Nat} {E : Nat → Nat → Bool} {R : RsT} {dp ind s k tr ca ra : Nat} {lp : LpT} {sc sc1 sc2 : SCs} {at' : List Nat} {x : PT}
theorem inD_app {l r : List (Nat × Nat × Nat × Nat)} : ∀ (d u : Nat), inD l d u → inD (l ++ r) d u := by
  intro d
  induction d with
  | zero => intro u h; exact h
  | succ d ih =>
    intro u h
    rcases h with h | ⟨e, e1, e2⟩
    · exact Or.inl h
    · exact Or.inr ⟨e, by rw [List.getElem?_append_left (List.getElem?_eq_some_iff.mp e1).1]; exact e1, ih _ e2⟩
theorem inD_1 {l : List (Nat × Nat × Nat × Nat)} : ∀ (d u : Nat), inD l d u → inD l (d + 1) u := by
  intro d
  induction d with
  | zero => intro u h; exact Or.inl h
  | succ d ih =>
    intro u h
    rcases h with h | ⟨e, e1, e2⟩
    · exact Or.inl h
    · exact Or.inr ⟨e, e1, ih _ e2⟩
theorem inD_le {l : List (Nat × Nat × Nat × Nat)} {d d' u : Nat} (h : inD l d u) (hd : d ≤ d') : inD l d' u := by
  obtain ⟨r, rfl⟩ : ∃ r, d' = d + r := ⟨d' - d, by omega⟩
  clear hd
  induction r with
  | zero => exact h
  | succ r ih => exact inD_1 _ _ ih
theorem dR_e (h : sc1.1 = sc.1) : dR sc sc1 := ⟨⟨[], by rw [List.append_nil]; exact h⟩, fun u h1 h2 => absurd h2 (by rw [h]; omega)⟩
theorem dR_trans (h : dR sc sc1) (g : dR sc1 sc2) : dR sc sc2 := by
  obtain ⟨⟨l, h1⟩, h2⟩ := h
  obtain ⟨⟨r, g1⟩, g2⟩ := g
  refine ⟨⟨l ++ r, by rw [g1, h1, List.append_assoc]⟩, fun u u1 u2 => ?_⟩
  rcases Nat.lt_or_ge u sc1.1.length with q | q
  · rw [g1]
    exact inD_app _ _ (h2 u u1 q)
  · exact g2 u q u2
theorem dR_in (h : dR sc sc1) {d u : Nat} (hu : inD sc.1 d u) : inD sc1.1 d u := by
  obtain ⟨⟨l, h1⟩, _⟩ := h
  rw [h1]
  exact inD_app _ _ hu
theorem dR_lt (h : dR sc sc1) (hs : s < sc.1.length) : s < sc1.1.length := by
  obtain ⟨⟨l, h1⟩, _⟩ := h
  rw [h1, List.length_append]
  omega
theorem dR_ln {l : Nat} {os : List Op} (h : ln K l k os sc1 at' = .inr x) (he : sc1.1 = sc.1) : dR sc x.2.2.1 := by
  obtain ⟨_, v2⟩ := ln_inr h
  rw [v2]
  exact dR_e he
theorem psBind_D (h : psBind K L E s sc at' k = .inr x) : dR sc x.2.2.1 := by
  unfold psBind at h
  obtain ⟨r, hr, h⟩ := pb_inr h
  by_cases h19 : K r.1 = 19
  · rw [if_pos h19] at h
    obtain ⟨hg, h⟩ := ifn_inr h
    obtain ⟨q, hq, h⟩ := pb_inr h
    exact dR_ln h (scT_l E s r.2.1 (r.1 - 1) sc).1
  · rw [if_neg h19] at h
    by_cases hc : chO (K r.1) = 0
    · rw [if_pos hc] at h
      exact dR_ln h rfl
    · rw [if_neg hc] at h
      obtain ⟨hg, h⟩ := ifn_inr h
      obtain ⟨q, hq, h⟩ := pb_inr h
      exact dR_ln h (scT_l E s r.2.1 (r.1 - 1) sc).1
theorem psGl_D {l : Nat} : ∀ (m : Nat) (sc : SCs) (k : Nat) (x : PT), psGl K E l s at' m sc k = .inr x → dR sc x.2.2.1 := by
  intro m
  induction m with
  | zero => intro sc k x h; cases h
  | succ m ih =>
    intro sc k x h
    unfold psGl at h
    obtain ⟨h3, h⟩ := if_inr h
    cases hg : scG E s k sc with
    | none => rw [hg] at h; cases h
    | some sc1 =>
      rw [hg] at h
      have w2 := (scG_l hg).1
      have h' : (if K (k + 1) = 12 then psGl K E l s at' m sc1 (k + 2) else ln K l (k + 1) [] sc1 at') = .inr x := h
      by_cases h12 : K (k + 1) = 12
      · rw [if_pos h12] at h'
        exact dR_trans (dR_e w2) (ih sc1 _ x h')
      · rw [if_neg h12] at h'
        exact dR_ln h' w2
theorem psPr_D {u : Nat} : ∀ (m c : Nat) (sc : SCs) (k : Nat) (y : Nat × SCs × Nat), psPr K E u m c sc k = some y → y.2.1.1 = sc.1 := by
  intro m
  induction m with
  | zero => intro c sc k y h; cases h
  | succ m ih =>
    intro c sc k y h
    unfold psPr at h
    by_cases hc : K k = 3 ∧ c < 8
    · rw [if_pos hc] at h
      cases hg : scP E u k sc with
      | none => rw [hg] at h; cases h
      | some sc1 =>
        rw [hg] at h
        have g := (scP_l hg).1
        have h' : (if K (k + 1) = 12 then psPr K E u m (c + 1) sc1 (k + 2) else if K (k + 1) = 7 then some (k + 2, sc1, c + 1) else none) = some y := h
        by_cases h12 : K (k + 1) = 12
        · rw [if_pos h12] at h'
          exact (ih _ _ _ _ h').trans g
        · rw [if_neg h12] at h'
          by_cases h7 : K (k + 1) = 7
          · rw [if_pos h7] at h'
            injection h' with h'
            subst h'
            exact g
          · rw [if_neg h7] at h'; cases h'
    · rw [if_neg hc] at h; cases h
theorem psDef_D (hR : psD R) (hi : inD sc.1 dp s) (hs : s < sc.1.length) (h : psDef K L E R dp ind s ca ra sc at' k = .inr x) : dR sc x.2.2.1 := by
  unfold psDef at h
  obtain ⟨_, h⟩ := if_inr h
  cases hy : psPs K E sc.1.length (sc.1 ++ [(s, ca + 2, ra + 2, k + 1)], sc.2) (k + 3) with
  | none => rw [hy] at h; cases h
  | some y =>
    rw [hy] at h
    obtain ⟨b, hb, h⟩ := sb_inr h
    injection h with h
    subst h
    have e : y.2.1.1 = sc.1 ++ [(s, ca + 2, ra + 2, k + 1)] := by
      unfold psPs at hy
      by_cases h7 : K (k + 3) = 7
      · rw [if_pos h7] at hy
        injection hy with hy
        subst hy
        rfl
      · rw [if_neg h7] at hy
        exact psPr_D _ _ _ _ _ hy
    have hu : inD y.2.1.1 (dp + 1) sc.1.length := Or.inr ⟨(s, ca + 2, ra + 2, k + 1), by
      rw [e, List.getElem?_append_right (Nat.le_refl _), Nat.sub_self]; rfl, by
      rw [e]; exact inD_app _ _ hi⟩
    have hl : y.2.1.1.length = sc.1.length + 1 := by rw [e, List.length_append]; rfl
    obtain ⟨b1, b2⟩ := hR _ _ _ _ _ _ _ _ _ _ _ _ hb hu (by omega)
    have h10 := b1 (Or.inl rfl)
    refine dR_trans ⟨⟨_, e⟩, fun u u1 u2 => ?_⟩ b2
    obtain rfl : u = sc.1.length := by omega
    exact inD_le hu h10
theorem psS0_D (hR : psD R) (hi : inD sc.1 dp s) (hs : s < sc.1.length) (h : psS0 K L I E R dp ind s lp tr ca ra sc at' k = .inr x) : dR sc x.2.2.1 := by
  have hi1 := inD_1 _ _ hi
  unfold psS0 at h
  by_cases e : K k = 40
  · rw [if_pos e] at h
    exact (hR _ _ _ _ _ _ _ _ _ _ _ _ h hi hs).2
  rw [if_neg e] at h; clear e
  by_cases e : K k = 43
  · rw [if_pos e] at h
    unfold psWh at h
    obtain ⟨r, hr, h⟩ := pb_inr h
    obtain ⟨b, hb, h⟩ := sb_inr h
    injection h with h
    subst h
    exact (hR _ _ _ _ _ _ _ _ _ _ _ _ hb hi1 hs).2
  rw [if_neg e] at h; clear e
  by_cases e : K k = 44
  · rw [if_pos e] at h
    unfold psFor at h
    obtain ⟨_, h⟩ := if_inr h
    obtain ⟨r, hr, h⟩ := pb_inr h
    obtain ⟨b, hb, h⟩ := sb_inr h
    injection h with h
    subst h
    have e1 := (scB_l E s (k + 1) sc).1
    exact dR_trans (dR_e e1) (hR _ _ _ _ _ _ _ _ _ _ _ _ hb (by rw [e1]; exact hi1) (by rw [e1]; exact hs)).2
  rw [if_neg e] at h; clear e
  by_cases e : K k = 46
  · rw [if_pos e] at h
    unfold psDf at h
    obtain ⟨b, hb, h⟩ := sb_inr h
    injection h with h
    subst h
    exact dR_trans (psDef_D hR hi hs hb) (dR_e (scB_l E s (k + 1) b.2.2.1).1)
  rw [if_neg e] at h; clear e
  by_cases e : K k = 47
  · rw [if_pos e] at h
    unfold psCl at h
    obtain ⟨_, h⟩ := if_inr h
    by_cases h6 : K (k + 2) = 6
    · rw [if_pos h6] at h
      obtain ⟨_, h⟩ := if_inr h
      obtain ⟨b, hb, h⟩ := sb_inr h
      injection h with h
      subst h
      exact dR_trans (hR _ _ _ _ _ _ _ _ _ _ _ _ hb hi1 hs).2 (dR_e (scB_l E s (k + 1) b.2.2.1).1)
    · rw [if_neg h6] at h
      obtain ⟨b, hb, h⟩ := sb_inr h
      injection h with h
      subst h
      exact dR_trans (hR _ _ _ _ _ _ _ _ _ _ _ _ hb hi1 hs).2 (dR_e (scB_l E s (k + 1) b.2.2.1).1)
  rw [if_neg e] at h; clear e
  by_cases e : K k = 54
  · rw [if_pos e] at h
    unfold psTry at h
    obtain ⟨b, hb, h⟩ := sb_inr h
    obtain ⟨_, h⟩ := if_inr h
    obtain ⟨w, hw, h⟩ := sb_inr h
    injection h with h
    subst h
    have g := (hR _ _ _ _ _ _ _ _ _ _ _ _ hb hi1 hs).2
    have e1 := (exC_l (E := E) K s (b.1 + 1) b.2.2.1).1
    exact dR_trans g (dR_trans (dR_e e1) (hR _ _ _ _ _ _ _ _ _ _ _ _ hw (by rw [e1]; exact dR_in g hi1) (by rw [e1]; exact dR_lt g hs)).2)
  rw [if_neg e] at h; clear e
  by_cases e : K k = 52
  · rw [if_pos e] at h
    unfold psDel at h
    obtain ⟨r, hr, h⟩ := pb_inr h
    obtain ⟨_, h⟩ := ifn_inr h
    exact dR_ln h (scT_l E s r.2.1 (r.1 - 1) sc).1
  rw [if_neg e] at h; clear e
  by_cases e : K k = 48
  · rw [if_pos e] at h
    unfold psRet at h
    obtain ⟨_, h⟩ := ifn_inr h
    split at h
    · injection h with h
      subst h
      exact dR_e rfl
    · obtain ⟨r, hr, h⟩ := pb_inr h
      exact dR_ln h rfl
  rw [if_neg e] at h; clear e
  by_cases e : K k = 56
  · rw [if_pos e] at h
    unfold psRse at h
    obtain ⟨r, hr, h⟩ := pb_inr h
    exact dR_ln h rfl
  rw [if_neg e] at h; clear e
  by_cases e : K k = 51
  · rw [if_pos e] at h
    exact dR_ln h rfl
  rw [if_neg e] at h; clear e
  have lvl : ∀ b, psLv K L lp tr ca ra b sc at' k = .inr x → dR sc x.2.2.1 := fun b hl => by
    unfold psLv at hl
    cases lp with
    | none => cases hl
    | some w => exact dR_ln hl rfl
  by_cases e : K k = 49
  · rw [if_pos e] at h
    exact lvl _ h
  rw [if_neg e] at h; clear e
  by_cases e : K k = 50
  · rw [if_pos e] at h
    exact lvl _ h
  rw [if_neg e] at h; clear e
  by_cases e : K k = 53
  · rw [if_pos e] at h
    obtain ⟨_, h⟩ := ifn_inr h
    exact psGl_D _ _ _ _ h
  rw [if_neg e] at h
  exact psBind_D h
theorem psI_D (hR : psD R) (hi : inD sc.1 dp s) (hs : s < sc.1.length) (h : psI K L I R dp ind s lp tr ca ra sc at' k = .inr x) : dR sc x.2.2.1 := by
  have hi1 := inD_1 _ _ hi
  unfold psI at h
  obtain ⟨r, hr, h⟩ := pb_inr h
  obtain ⟨b, hb, h⟩ := sb_inr h
  have g := (hR _ _ _ _ _ _ _ _ _ _ _ _ hb hi1 hs).2
  by_cases hc : (K b.1 = 41 ∨ K b.1 = 42) ∧ I b.1 = ind
  · rw [if_pos hc] at h
    obtain ⟨e, he, h⟩ := sb_inr h
    injection h with h
    subst h
    by_cases h41 : K b.1 = 41
    · rw [if_pos h41] at he
      exact dR_trans g (hR _ _ _ _ _ _ _ _ _ _ _ _ he (dR_in g hi) (dR_lt g hs)).2
    · rw [if_neg h41] at he
      exact dR_trans g (hR _ _ _ _ _ _ _ _ _ _ _ _ he (dR_in g hi1) (dR_lt g hs)).2
  · rw [if_neg hc] at h
    injection h with h
    subst h
    exact g
theorem psQ_D (hR : psD R) {u t : Nat} (hi : inD sc.1 dp s) (hs : s < sc.1.length) (h : psQ K L I R u t dp ind s lp tr ca ra sc at' k = .inr x) : dR sc x.2.2.1 := by
  unfold psQ at h
  split at h
  · injection h with h
    subst h
    exact dR_e rfl
  · obtain ⟨_, h⟩ := ifn_inr h
    obtain ⟨a, ha, h⟩ := sb_inr h
    obtain ⟨b, hb, h⟩ := sb_inr h
    injection h with h
    subst h
    have g := (hR _ _ _ _ _ _ _ _ _ _ _ _ ha hi hs).2
    exact dR_trans g (hR _ _ _ _ _ _ _ _ _ _ _ _ hb (dR_in g hi) (dR_lt g hs)).2
theorem psB_D (hR : psD R) {t : Nat} (hi : inD sc.1 dp s) (hs : s < sc.1.length) (h : psB K L I R t dp ind s lp tr ca ra sc at' k = .inr x) : dp ≤ 10 ∧ dR sc x.2.2.1 := by
  unfold psB at h
  obtain ⟨_, h⟩ := ifn_inr h
  obtain ⟨_, h⟩ := ifn_inr h
  obtain ⟨hc, h⟩ := ifn_inr h
  exact ⟨by omega, (hR _ _ _ _ _ _ _ _ _ _ _ _ h hi hs).2⟩
theorem psC_D (hR : psD R) (hi : inD sc.1 dp s) (hs : s < sc.1.length) (h : psC K L E R dp ind s ca ra sc at' k = .inr x) : dR sc x.2.2.1 := by
  unfold psC at h
  obtain ⟨y, hy, h⟩ := sb_inr h
  injection h with h
  subst h
  unfold psC0 at hy
  by_cases h46 : K k = 46
  · rw [if_pos h46] at hy
    obtain ⟨w, hw, hy⟩ := sb_inr hy
    injection hy with hy
    subst hy
    have g := psDef_D (x := w) hR hi hs hw
    exact g
  rw [if_neg h46] at hy
  by_cases h51 : K k = 51
  · rw [if_pos h51] at hy
    have g := dR_ln (x := y) (sc := sc) hy rfl
    exact g
  rw [if_neg h51] at hy
  obtain ⟨_, hy⟩ := if_inr hy
  obtain ⟨r, hr, hy⟩ := pb_inr hy
  have g := dR_ln (x := y) (sc := sc) hy rfl
  exact g
theorem ps_D : ∀ F, psD (ps K L I E F) := by
  intro F
  induction F with
  | zero => intro t dp ind s lp tr ca ra sc at' k x h; cases h
  | succ F ih =>
    intro t dp ind s lp tr ca ra sc at' k x h hi hs
    match t, h with
    | 0, h =>
      have h' : psS K L I E (ps K L I E F) dp ind s lp tr ca ra sc at' k = .inr x := h
      unfold psS at h'
      obtain ⟨y, hy, h'⟩ := sb_inr h'
      injection h' with h'
      subst h'
      have g := psS0_D (x := y) ih hi hs hy
      exact ⟨(fun q => by omega), g⟩
    | 1, h => exact ⟨(fun q => by omega), psQ_D ih hi hs h⟩
    | 2, h => exact ⟨fun _ => (psB_D ih hi hs h).1, (psB_D ih hi hs h).2⟩
    | 3, h => exact ⟨(fun q => by omega), psI_D ih hi hs h⟩
    | 4, h => exact ⟨(fun q => by omega), psQ_D ih hi hs h⟩
    | 5, h => exact ⟨(fun q => by omega), psC_D ih hi hs h⟩
    | t + 6, h => exact ⟨fun _ => (psB_D ih hi hs h).1, (psB_D ih hi hs h).2⟩
end
