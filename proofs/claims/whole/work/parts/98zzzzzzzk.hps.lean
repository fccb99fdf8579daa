/-! HEIGHTS (pure): every text -/
/-- scopes that come, with their functions -/
def nwS (a b : List (Nat × Nat × Nat × Nat)) (fs : FS) : Prop := b = a ++ fs.map (fun f => f.2) ∧ ∀ (i : Nat) (f : Nat × Nat × Nat × Nat × Nat), fs[i]? = some f → f.1 = a.length + i
theorem nwS_0 {a b : List (Nat × Nat × Nat × Nat)} (h : b = a) : nwS a b [] := ⟨by rw [h]; exact (List.append_nil _).symm, fun i f hf => by cases hf⟩
theorem nwS_app {a b c : List (Nat × Nat × Nat × Nat)} {fs fs' : FS} (h1 : nwS a b fs) (h2 : nwS b c fs') : nwS a c (fs ++ fs') := by
  refine ⟨by rw [h2.1, h1.1, List.map_append, List.append_assoc], fun i f hf => ?_⟩
  rcases Nat.lt_or_ge i fs.length with h | h
  · rw [List.getElem?_append_left h] at hf
    exact h1.2 i f hf
  · rw [List.getElem?_append_right h] at hf
    have := h2.2 _ f hf
    have e : b.length = a.length + fs.length := by rw [h1.1, List.length_append, List.length_map]
    omega
def cst (h u : Nat) (l : LL) (at' : List Nat) : HS := if at'.length ≤ 40 then some (h + at'.length, u, l) else none
/-- behind a value that becomes an attribute -/
def cs1 (h u : Nat) (l : LL) (at' : List Nat) : HS := if at'.length ≤ 40 then some (h + at'.length + 1, u, l) else none
def lpS (lp : LpT) (h tr : Nat) (l : LL) : HS := lp.map (fun w => (h, w.2.2, ldr (tr - w.2.2) l))
theorem lpS_0 (a b h tr : Nat) (l : LL) : lpS (some (a, b, tr)) h tr l = some (h, tr, l) := by
  show some (h, tr, ldr (tr - tr) l) = _
  rw [Nat.sub_self]
  rfl
theorem lpS_s {lp : LpT} {h tr x : Nat} {l : LL} (hw : ∀ w : Nat × Nat × Nat, lp = some w → w.2.2 ≤ tr) : lpS lp h (tr + 1) (ltr x l) = lpS lp h tr l := by
  cases lp with
  | none => rfl
  | some w =>
    have := hw w rfl
    show some (h, w.2.2, ldr (tr + 1 - w.2.2) (ltr x l)) = some (h, w.2.2, ldr (tr - w.2.2) l)
    rw [show tr + 1 - w.2.2 = (tr - w.2.2) + 1 by omega]
    rfl
/-- between the loop around and here tries alone are open -/
def lpK (lp : LpT) (tr : Nat) (l : LL) : Prop := ∀ w : Nat × Nat × Nat, lp = some w → tmk l (tr - w.2.2)
def psHA (K : Nat → Nat) (R : RsT) : Prop := ∀ t dp ind s lp tr ca ra sc at' k x, t ≤ 3 → R t dp ind s lp tr ca ra sc at' k = .inr x → (t ≠ 2 → dp ≤ 10) → tr ≤ dp → (∀ w : Nat × Nat × Nat, lp = some w → w.2.2 ≤ tr) → 1 ≤ sc.1.length → dp ≤ 10 ∧ ∀ h (l : LL), l.2 = s → lob l ≤ h → h ≤ 2 * dp → lpK lp tr l → ∃ nw, nwS sc.1 x.2.2.1.1 nw ∧ hO K lp (lpS lp h tr l) ca ra x.2.1 (some (h, tr, l)) (some (h, tr, l)) nw
def psHB (K : Nat → Nat) (R : RsT) : Prop := ∀ t dp ind s lp tr ca ra sc at' k x, 4 ≤ t → R t dp ind s lp tr ca ra sc at' k = .inr x → (t ≤ 5 → dp ≤ 10) → 1 ≤ sc.1.length → dp ≤ 10 ∧ ∀ h u (l : LL), l.2 = s → lob l ≤ h → h ≤ 2 * dp → u ≤ 10 → ∃ nw, nwS sc.1 x.2.2.1.1 nw ∧ hO K none none ca ra x.2.1 (cst h u l at') (cst h u l x.2.2.2) nw
section
variable {K L I : Nat → Nat} {E : Nat → Nat → Bool} {R : RsT} {dp ind s k tr ca ra h u : Nat} {l : LL} {lp : LpT} {ls s0 s1 : HS} {sc : SCs} {at' : List Nat} {x : PT}
theorem ln_H {m : Nat} {os : List Op} {sc1 : SCs} (hx : ln K m k os sc1 at' = .inr x) (h1 : sc1.1 = sc.1) (hF' : hF K l.2 os s0 s1) : ∃ nw, nwS sc.1 x.2.2.1.1 nw ∧ hO K lp ls ca ra x.2.1 s0 s1 nw := by
  obtain ⟨_, v2⟩ := ln_inr hx
  rw [v2]
  exact ⟨[], nwS_0 h1, hO_F hF'⟩
theorem rtl_H {a b c : Nat} {e : Nat × Nat × List Op} {v w : Nat} (h : ∃ w' o, e.2.2 = w' ++ [o] ∧ o.1 = tgo e.2.1 ∧ (e.2.1 = 1 → o.2.1.getD 1 0 = l.2) ∧ hF K l.2 w' s0 (some (v, u, l))) (hg : e.2.1 = 1 ∨ e.2.1 = 2 ∨ e.2.1 = 3) (hk : ∀ (p : List Nat) (y z : Int), (e.2.1 = 1 → p.getD 1 0 = l.2) → hF K l.2 [(((if e.2.1 = 1 then a else if e.2.1 = 2 then b else c), p, y, z) : Op)] (some (v, u, l)) (some (w, u, l))) : hF K l.2 (rtl a b c e.2.2) s0 (some (w, u, l)) := by
  obtain ⟨w', o, e1, e2, e4, e3⟩ := h
  unfold rtl
  rw [e1, List.dropLast_concat, List.getLast?_concat]
  refine hF_app e3 ?_
  have ee : (if o.1 = 18 then a else if o.1 = 39 then b else c) = (if e.2.1 = 1 then a else if e.2.1 = 2 then b else c) := by
    rw [e2]
    unfold tgo
    rcases hg with g | g | g <;> rw [g] <;> rfl
  show hF K l.2 [((if o.1 = 18 then a else if o.1 = 39 then b else c), o.2)] _ _
  rw [ee]
  exact hk o.2.1 o.2.2.1 o.2.2.2 e4
theorem hF_k {x : Nat} {p : List Nat} {y z : Int} {n m : Nat} (hp : hpp ((x, p, y, z) : Op) = (n, m)) (h1 : 16 ≤ x ∧ x ≠ 60 ∧ x ≠ 22 ∧ x ≠ 24 ∧ x ≠ 23 ∧ x ≠ 49 ∧ x ≠ 50 ∧ x ≠ 51 ∧ x ≠ 21) (hn : hnm ((x, p, y, z) : Op) l.2) (hl : lob l ≤ h) (hh : h + n ≤ 600) (ht : tr ≤ 10) : hF K l.2 [((x, p, y, z) : Op)] (some (h + n, tr, l)) (some (h + m, tr, l)) :=
  hF_p (Or.inl (by dsimp only; omega)) (by dsimp only; omega) (by dsimp only; omega) (hlm_n (by dsimp only; omega)) hn (by rw [hp]; dsimp only; omega) (by rw [hp]; dsimp only; omega) hh ht
theorem psBind_H (hx : psBind K L E s sc at' k = .inr x) (hs : l.2 = s) (hl : lob l ≤ h) (hh : h ≤ 22) (ht : tr ≤ 10) : ∃ nw, nwS sc.1 x.2.2.1.1 nw ∧ hO K lp ls ca ra x.2.1 (some (h, tr, l)) (some (h, tr, l)) nw := by
  unfold psBind at hx
  obtain ⟨r, hr, hx⟩ := pb_inr hx
  by_cases h19 : K r.1 = 19
  · rw [if_pos h19] at hx
    obtain ⟨hg, hx⟩ := ifn_inr hx
    obtain ⟨q, hq, hx⟩ := pb_inr hx
    obtain ⟨g1, w, o, w1', w2, w4, w3⟩ := exs_tH hr hg

    refine ln_H hx (scT_l _ _ _ _ _).1 (hF_app (exs_H hq hs hl (by omega) ht) (rtl_H (v := h + 1 + tgh r.2.1) ⟨w, o, w1', w2, (fun c => by rw [hs]; exact w4 c), w3 (h + 1) tr l hs (by omega) (by omega) ht⟩ g1 (fun p y z hp => ?_)))
    rcases g1 with g | g | g <;> rw [g]
    · exact hF_k (x := 19) (h := h) (n := 1) (m := 0) rfl (by omega) (fun _ _ => Or.inr (hp g)) hl (by omega) ht
    · exact hF_k (x := 41) (h := h) (n := 3) (m := 0) rfl (by omega) (hnm_n (by dsimp only; omega)) hl (by omega) ht
    · exact hF_k (x := 46) (h := h) (n := 2) (m := 0) rfl (by omega) (hnm_n (by dsimp only; omega)) hl (by omega) ht
  · rw [if_neg h19] at hx
    by_cases hc : chO (K r.1) = 0
    · rw [if_pos hc] at hx
      exact ln_H hx rfl (hF_app (exs_H hr hs hl (by omega) ht) (hF_off (by omega) (hnm_n (by dsimp only; omega)) hl (by omega) ht))
    · rw [if_neg hc] at hx
      obtain ⟨hg, hx⟩ := ifn_inr hx
      obtain ⟨q, hq, hx⟩ := pb_inr hx
      obtain ⟨g1, w, o, w1', w2, w4, w3⟩ := exs_tH hr hg

      have h2 : 27 ≤ chO (K r.1) ∧ chO (K r.1) ≤ 39 := by
        unfold chO at hc ⊢
        split
        · omega
        · split
          · omega
          · split
            · omega
            · rename_i a1 a2 a3
              rw [if_neg a1, if_neg a2, if_neg a3] at hc
              exact absurd rfl hc
      have hw := w3 h tr l hs hl (by omega) ht
      rcases g1 with g | g | g
      · refine ln_H hx (scT_l _ _ _ _ _).1 (hF_app (rtl_H (v := h) (w := h + 1) ⟨w, o, w1', w2, (fun c => by rw [hs]; exact w4 c), by rw [g] at hw; exact hw⟩ (Or.inl g) (fun p y z hp => ?_)) (hF_app (exs_H hq hs (by omega) (by omega) ht) (hF_app (os := [_]) (hF_bin h2 hl (by omega) ht) ?_)))
        · rw [g]
          exact hF_k (x := 18) (h := h) (n := 0) (m := 1) rfl (by omega) (fun _ _ => Or.inr (hp g)) hl (by omega) ht
        · rw [g]
          exact hF_k (x := 19) (h := h) (n := 1) (m := 0) rfl (by omega) (fun _ _ => Or.inr hs.symm) hl (by omega) ht
      · refine ln_H hx (scT_l _ _ _ _ _).1 (hF_app (rtl_H (v := h + 2) (w := h + 3) ⟨w, o, w1', w2, (fun c => by rw [hs]; exact w4 c), by rw [g] at hw; exact hw⟩ (Or.inr (Or.inl g)) (fun p y z hp => ?_)) (hF_app (exs_H hq hs (by omega) (by omega) ht) (hF_app (os := [_]) (hF_bin (h := h + 2) h2 (by omega) (by omega) ht) ?_)))
        · rw [g]
          exact hF_k (x := 40) (h := h) (n := 2) (m := 3) rfl (by omega) (hnm_n (by dsimp only; omega)) hl (by omega) ht
        · rw [g]
          exact hF_k (x := 42) (h := h) (n := 3) (m := 0) rfl (by omega) (hnm_n (by dsimp only; omega)) hl (by omega) ht
      · refine ln_H hx (scT_l _ _ _ _ _).1 (hF_app (rtl_H (v := h + 1) (w := h + 2) ⟨w, o, w1', w2, (fun c => by rw [hs]; exact w4 c), by rw [g] at hw; exact hw⟩ (Or.inr (Or.inr g)) (fun p y z hp => ?_)) (hF_app (exs_H hq hs (by omega) (by omega) ht) (hF_app (os := [_]) (hF_bin (h := h + 1) h2 (by omega) (by omega) ht) ?_)))
        · rw [g]
          exact hF_k (x := 45) (h := h) (n := 1) (m := 2) rfl (by omega) (hnm_n (by dsimp only; omega)) hl (by omega) ht
        · rw [g]
          exact hF_k (x := 47) (h := h) (n := 2) (m := 0) rfl (by omega) (hnm_n (by dsimp only; omega)) hl (by omega) ht
theorem psDel_H (hx : psDel K L E s sc at' k = .inr x) (hs : l.2 = s) (hl : lob l ≤ h) (hh : h ≤ 22) (ht : tr ≤ 10) : ∃ nw, nwS sc.1 x.2.2.1.1 nw ∧ hO K lp ls ca ra x.2.1 (some (h, tr, l)) (some (h, tr, l)) nw := by
  unfold psDel at hx
  obtain ⟨r, hr, hx⟩ := pb_inr hx
  obtain ⟨hg, hx⟩ := ifn_inr hx
  obtain ⟨g1, w, o, w1', w2, w4, w3⟩ := exs_tH hr hg

  refine ln_H hx (scT_l _ _ _ _ _).1 (rtl_H (v := h + tgh r.2.1) ⟨w, o, w1', w2, (fun c => by rw [hs]; exact w4 c), w3 h tr l hs hl (by omega) ht⟩ g1 (fun p y z hp => ?_))
  rcases g1 with g | g | g <;> rw [g]
  · exact hF_k (x := 20) (h := h) (n := 0) (m := 0) rfl (by omega) (fun _ _ => Or.inr (hp g)) hl (by omega) ht
  · exact hF_k (x := 43) (h := h) (n := 2) (m := 0) rfl (by omega) (hnm_n (by dsimp only; omega)) hl (by omega) ht
  · exact hF_k (x := 48) (h := h) (n := 1) (m := 0) rfl (by omega) (hnm_n (by dsimp only; omega)) hl (by omega) ht
theorem hF_end {x : Nat} {p : List Nat} {y z : Int} (h1 : x = 8 ∨ x = 14) (hl : lob l ≤ h) (hh : h + 1 ≤ 600) (ht : tr ≤ 10) : hF K l.2 [((x, p, y, z) : Op)] (some (h + 1, tr, l)) s1 := hF_1 (by unfold isJ; dsimp only; omega) (by dsimp only; omega) (by dsimp only; omega) (lbb_s hh ht) (lsc_s rfl) (fun h' t' l' hx => by
  injection hx with hx
  injection hx with e1 e2
  injection e2 with e2 e3
  subst e1; subst e2; subst e3
  unfold hef
  dsimp only
  rw [if_neg (by omega), if_neg (by omega), if_neg (by omega), if_neg (by omega), if_neg (by omega), if_neg (by omega), if_neg (by omega), if_pos (by omega)]
  omega)
theorem psRet_H (hx : psRet K L s sc at' k = .inr x) (hs : l.2 = s) (hl : lob l ≤ h) (hh : h ≤ 22) (ht : tr ≤ 10) : ∃ nw, nwS sc.1 x.2.2.1.1 nw ∧ hO K lp ls ca ra x.2.1 (some (h, tr, l)) (some (h, tr, l)) nw := by
  unfold psRet at hx
  obtain ⟨_, hx⟩ := ifn_inr hx
  split at hx
  · injection hx with hx
    subst hx
    exact ⟨[], nwS_0 rfl, hO_F (hF_app (os := [_]) (hF_put (h := h) (by omega) (hnm_n (by dsimp only; omega)) hl (by omega) ht) (hF_end (by omega) hl (by omega) ht))⟩
  · obtain ⟨r, hr, hx⟩ := pb_inr hx
    exact ln_H hx rfl (hF_app (exs_H hr hs hl (by omega) ht) (hF_end (by omega) hl (by omega) ht))
theorem psRse_H (hx : psRse K L s sc at' k = .inr x) (hs : l.2 = s) (hl : lob l ≤ h) (hh : h ≤ 22) (ht : tr ≤ 10) : ∃ nw, nwS sc.1 x.2.2.1.1 nw ∧ hO K lp ls ca ra x.2.1 (some (h, tr, l)) (some (h, tr, l)) nw := by
  unfold psRse at hx
  obtain ⟨r, hr, hx⟩ := pb_inr hx
  exact ln_H hx rfl (hF_app (exs_H hr hs hl (by omega) ht) (hF_end (by omega) hl (by omega) ht))
theorem psLv_H {b : Bool} (hx : psLv K L lp tr ca ra b sc at' k = .inr x) (hl : lob l ≤ h) (hh : h ≤ 22) (ht : tr ≤ 10) (hw : ∀ w : Nat × Nat × Nat, lp = some w → w.2.2 ≤ tr) (hk : lpK lp tr l) : ∃ nw, nwS sc.1 x.2.2.1.1 nw ∧ hO K lp (lpS lp h tr l) ca ra x.2.1 (some (h, tr, l)) (some (h, tr, l)) nw := by
  unfold psLv at hx
  cases lp with
  | none => cases hx
  | some w =>
    have hwt := hw w rfl
    obtain ⟨_, v2⟩ := ln_inr hx
    rw [v2]
    refine ⟨[], nwS_0 rfl, ?_⟩
    have hkt := hk w rfl
    have hu : hF K l.2 (untr tr w.2.2) (some (h, tr, l)) (some (h, w.2.2, ldr (tr - w.2.2) l)) := by
      unfold untr
      split
      · have := hF_13 (K := K) (n := tr - w.2.2) (y := 0) (z := 0) (tr := tr) (h := h) (l := l) (by omega) hkt (by omega) ht
        rw [show tr - (tr - w.2.2) = w.2.2 by omega] at this
        exact this
      · rw [show w.2.2 = tr by omega, Nat.sub_self]
        exact hF_nil
    refine hO_app (fs := []) (hO_F hu) ?_ rfl rfl
    cases b with
    | true =>
      refine ⟨[(((60, [], 0, 0) : Op), some (h, w.2.2, ldr (tr - w.2.2) l))], rfl, rfl, hA_1 (lbb_s (by omega) (by omega)) (fun h' t' l' hs => ⟨?_, fun hj => ?_, fun _ => hs, fun c => by cases c⟩), fun f hf => by cases hf⟩
      · unfold hef
        dsimp only
        rw [if_neg (by omega), if_neg (by omega), if_neg (by omega), if_neg (by omega), if_neg (by omega), if_pos (by omega)]
        exact True.intro
      · unfold isJ at hj
        dsimp only at hj
        omega
    | false =>
      refine ⟨[(((4, [], (w.1 : Int) - (ca + wC (untr tr w.2.2) : Nat), (w.2.1 : Int) - ((ra + wR K (untr tr w.2.2) : Nat) + 1)) : Op), some (h, w.2.2, ldr (tr - w.2.2) l))], rfl, rfl, hA_j rfl (lbb_s (by omega) (by omega)) (fun s hs => Or.inr (Or.inl ⟨⟨?_, ?_⟩, hs⟩)), fun f hf => by cases hf⟩
      · show ((ca + wC (untr tr w.2.2) : Nat) : Int) + ((w.1 : Int) - (ca + wC (untr tr w.2.2) : Nat)) = (w.1 : Nat)
        omega
      · show ((ra + wR K (untr tr w.2.2) : Nat) : Int) + 1 + ((w.2.1 : Int) - ((ra + wR K (untr tr w.2.2) : Nat) + 1)) = (w.2.1 : Nat)
        omega
theorem psGl_H {m : Nat} : ∀ (n : Nat) (sc : SCs) (k : Nat) (x : PT), psGl K E m s at' n sc k = .inr x → x.2.1 = [] ∧ x.2.2.1.1 = sc.1 := by
  intro n
  induction n with
  | zero => intro sc k x h; cases h
  | succ n ih =>
    intro sc k x h
    unfold psGl at h
    obtain ⟨h3, h⟩ := if_inr h
    cases hg : scG E s k sc with
    | none => rw [hg] at h; cases h
    | some sc1 =>
      rw [hg] at h
      have h' : (if K (k + 1) = 12 then psGl K E m s at' n sc1 (k + 2) else ln K m (k + 1) [] sc1 at') = .inr x := h
      have e1 := (scG_l hg).1
      by_cases h12 : K (k + 1) = 12
      · rw [if_pos h12] at h'
        obtain ⟨g1, g2⟩ := ih sc1 _ x h'
        exact ⟨g1, g2.trans e1⟩
      · rw [if_neg h12] at h'
        obtain ⟨_, v2⟩ := ln_inr h'
        rw [v2]
        exact ⟨rfl, e1⟩
theorem scP_1 {sc1 : SCs} (h : scP E s k sc = some sc1) : sc1.1 = sc.1 := by
  unfold scP at h
  split at h
  · cases h
  · injection h with h
    rw [← h]
    rfl
theorem psPr_1 : ∀ (m c : Nat) (sc : SCs) (k : Nat) (y : Nat × SCs × Nat), psPr K E s m c sc k = some y → y.2.1.1 = sc.1 := by
  intro m
  induction m with
  | zero => intro c sc k y h; cases h
  | succ m ih =>
    intro c sc k y h
    unfold psPr at h
    split at h
    · split at h
      · cases h
      · rename_i sc1 hs
        split at h
        · exact (ih _ _ _ _ h).trans (scP_1 hs)
        · split at h
          · injection h with h
            rw [← h]
            exact scP_1 hs
          · cases h
    · cases h
theorem psPs_1 {y : Nat × SCs × Nat} (h : psPs K E s sc k = some y) : y.2.1.1 = sc.1 := by
  unfold psPs at h
  split at h
  · injection h with h
    rw [← h]
  · exact psPr_1 _ _ _ _ _ h
theorem psDef_H (hR : psHA K R) (hx : psDef K L E R dp ind s ca ra sc at' k = .inr x) (hs1 : 1 ≤ sc.1.length) (hsc : lsc s s0) (hb0 : lbb s0) (h22 : ∀ (m : Nat) (ls : HS) (T : Int → Int → Nat × Nat × LL → Prop) (c r : Int), (∀ h t l, s0 = some (h, t, l) → T (-((m + 1 : Nat) : Int)) 0 (0, 0, ([], l.2))) → hA K T ls s1 [(((22, [m], 0, 0) : Op), s0)] c r) : ∃ nw, nwS sc.1 x.2.2.1.1 nw ∧ hO K lp ls ca ra x.2.1 s0 s1 nw := by
  unfold psDef at hx
  obtain ⟨_, hx⟩ := if_inr hx
  cases hy : psPs K E sc.1.length (sc.1 ++ [(s, ca + 2, ra + 2, k + 1)], sc.2) (k + 3) with
  | none => rw [hy] at hx; cases hx
  | some y =>
    rw [hy] at hx
    obtain ⟨b, hb, hx⟩ := sb_inr hx
    injection hx with hx
    subst hx
    obtain ⟨_, g⟩ := hR _ _ _ _ _ _ _ _ _ _ _ _ (by omega) hb (fun c => absurd rfl c) (Nat.zero_le _) (fun w hw => by cases hw) (by rw [psPs_1 hy]; show 1 ≤ (sc.1 ++ _).length; rw [List.length_append]; omega)
    obtain ⟨nw, n1, n2⟩ := g 0 ([], sc.1.length) rfl (Nat.le_refl _) (by omega) (fun w hw => by cases hw)
    have hm := nwS_app (a := sc.1) (b := sc.1 ++ [(s, ca + 2, ra + 2, k + 1)]) (fs := [(sc.1.length, s, ca + 2, ra + 2, k + 1)]) ⟨rfl, fun i f hf => ?_⟩ (by rw [psPs_1 hy] at n1; exact n1)
    · exact ⟨_, hm, def_H ⟨rfl, rfl⟩ (by show sc.1.length = sc.1.length - 1 + 1; omega) hsc hb0 (fun T c r hT => h22 _ _ T c r hT) n2⟩
    · cases i with
      | zero => injection hf with hf; rw [← hf]; rfl
      | succ i => cases hf
theorem h22_s (hl : lob l ≤ h) (hh : h ≤ 600) (ht : tr ≤ 10) : ∀ (m : Nat) (ls : HS) (T : Int → Int → Nat × Nat × LL → Prop) (c r : Int), (∀ h' t' l', some (h, tr, l) = some (h', t', l') → T (-((m + 1 : Nat) : Int)) 0 (0, 0, ([], l'.2))) → hA K T ls (some (h + 1, tr, l)) [(((22, [m], 0, 0) : Op), some (h, tr, l))] c r := fun m ls T c r hT =>
  hA_s (u := h + 1) (Or.inl (by dsimp only; omega)) (by dsimp only; omega) (hlm_n (by dsimp only; omega)) (hnm_n (by dsimp only; omega)) hl rfl hh ht rfl (fun _ => hT _ _ _ rfl)
theorem h22_n : ∀ (m : Nat) (ls : HS) (T : Int → Int → Nat × Nat × LL → Prop) (c r : Int), (∀ h' t' l', (none : HS) = some (h', t', l') → T (-((m + 1 : Nat) : Int)) 0 (0, 0, ([], l'.2))) → hA K T ls s1 [(((22, [m], 0, 0) : Op), none)] c r := fun m ls T c r _ => hA_1 lbb_0 (fun _ _ _ h => by cases h)
theorem gvO_H {j : Nat} (hl : lob l ≤ h) (hh : h ≤ 22) (hu : u ≤ 10) : hF K l.2 (gvO E at' j) (cs1 h u l at') (cst h u l (gvA E at' j)) := by
  unfold gvO gvA
  cases hg : gvI E at' j with
  | some i =>
    have hi : i < at'.length := (List.findIdx?_eq_some_iff_getElem.mp hg).1
    dsimp only
    by_cases h40 : at'.length ≤ 40
    · rw [if_pos (by omega)]
      unfold cs1 cst
      rw [if_pos h40, if_pos h40, Nat.min_eq_left h40]
      refine hF_p (Or.inl (by dsimp only; omega)) (by dsimp only; omega) (by dsimp only; omega) ⟨fun _ => ⟨at'.length - i, by omega, rfl⟩, (fun c => by cases c), (fun c => by cases c), (fun c => by cases c), (fun c => by cases c)⟩ (hnm_n (by dsimp only; omega)) ?_ ?_ (by omega) hu
      · show lob l + (at'.length - i + 1) ≤ _
        omega
      · show h + at'.length + (at'.length - i + 1) = h + at'.length + 1 + (at'.length - i)
        omega
    · unfold cs1
      rw [if_neg h40]
      refine hF_dead _ ?_ ?_
      · split <;> exact List.cons_ne_nil _ _
      · intro o ho
        split at ho
        · rw [List.mem_singleton] at ho
          rw [ho]; dsimp only; omega
        · rcases List.mem_cons.mp ho with e | e
          · rw [e]; dsimp only; omega
          · rw [List.mem_singleton] at e
            rw [e]; dsimp only; omega
  | none =>
    dsimp only
    have hlen : (at' ++ [j]).length = at'.length + 1 := by rw [List.length_append]; rfl
    by_cases h40 : 40 ≤ at'.length
    · rw [if_pos h40]
      have e : cst h u l (at' ++ [j]) = none := by
        unfold cst
        rw [if_neg (by omega)]
      rw [e]
      by_cases h41 : at'.length ≤ 40
      · unfold cs1
        rw [if_pos h41]
        refine hF_1 (by unfold isJ; dsimp only; omega) (by dsimp only; omega) (by dsimp only; omega) (lbb_s (by omega) hu) (lsc_s rfl) (fun h' t' l' hx => ?_)
        unfold hef
        dsimp only
        rw [if_neg (by omega), if_neg (by omega), if_neg (by omega), if_neg (by omega), if_neg (by omega), if_neg (by omega), if_pos rfl]
      · unfold cs1
        rw [if_neg h41]
        exact hF_dead _ (List.cons_ne_nil _ _) (fun o ho => by rw [List.mem_singleton] at ho; rw [ho]; dsimp only; omega)
    · rw [if_neg h40]
      unfold cs1 cst
      rw [if_pos (by omega), if_pos (by omega), hlen]
      exact hF_nil
theorem clO_22 {b : Nat} {o : Op} (ho : o ∈ clO L s k b at') : o.1 ≠ 22 := by
  unfold clO at ho
  rcases List.mem_cons.mp ho with h | h
  · rw [h]; dsimp only; omega
  · rcases List.mem_append.mp h with h | h
    · split at h
      · rw [List.mem_singleton] at h
        rw [h]; dsimp only; omega
      · cases h
    · rcases List.mem_cons.mp h with h | h
      · rw [h]; dsimp only; omega
      · rw [List.mem_singleton] at h
        rw [h]; dsimp only; omega
theorem clO_H {b : Nat} (hb : b ≤ 1) (hs : l.2 = s) (hl : lob l ≤ h) (hh : h ≤ 22) (hu : u ≤ 10) : hF K l.2 (clO L s k b at') (cst h u l at') (some (h, u, l)) := by
  by_cases h40 : at'.length ≤ 40
  · unfold cst clO
    rw [if_pos h40]
    refine hF_app (os := [_]) (hF_0 (by omega) (h := h + at'.length) (by omega) (by omega) hu) (hF_app (s1 := some (h + at'.length + b, u, l)) ?_ (hF_app (os := [_]) (s1 := some (h + 1, u, l)) ?_ (hF_off (by omega) (fun _ _ => Or.inr hs.symm) hl (by omega) hu)))
    · by_cases h1 : b = 1
      · rw [if_pos h1, h1]
        exact hF_put (by omega) (fun _ _ => Or.inr hs.symm) (by omega) (by omega) hu
      · rw [if_neg h1, show b = 0 by omega]
        exact hF_nil
    · have hlt : (at'.take 40).length = at'.length := by rw [List.length_take]; omega
      have hp : hpp ((23, (k + 1) :: b :: at'.take 40, 0, 0) : Op) = (at'.length + b, 1) := by
        show ((at'.take 40).length + 1 + 1 - 2 + b, 1) = _
        rw [hlt]
        rfl
      refine hF_p (Or.inl (by dsimp only; omega)) (by dsimp only; omega) (by dsimp only; omega) ⟨(fun c => by cases c), fun _ => ⟨?_, ?_, hb⟩, (fun c => by cases c), (fun c => by cases c), (fun c => by cases c)⟩ (hnm_n (by dsimp only; omega)) ?_ ?_ (by omega) hu
      · show 2 ≤ (at'.take 40).length + 1 + 1
        omega
      · show (at'.take 40).length + 1 + 1 ≤ 42
        omega
      · rw [hp]; dsimp only; omega
      · rw [hp]; dsimp only; omega
  · unfold cst
    rw [if_neg h40]
    exact hF_dead _ (List.cons_ne_nil _ _) (fun o ho => clO_22 ho)
theorem exO_H {j : Nat} (hs : l.2 = s) (hl : lob l ≤ h) (hh : h ≤ 22) (ht : tr ≤ 10) : hF K l.2 (exO K s j) (some (h, tr, l)) (some (h, tr, l)) := by
  unfold exO
  split
  · exact hF_app (os := [_]) (hF_put (by omega) (hnm_n (by dsimp only; omega)) hl (by omega) ht) (hF_off (by omega) (fun _ _ => Or.inr hs.symm) hl (by omega) ht)
  · exact hF_app (os := [_]) (hF_put (by omega) (hnm_n (by dsimp only; omega)) hl (by omega) ht) (hF_off (by omega) (hnm_n (by dsimp only; omega)) hl (by omega) ht)
theorem hexC_1 (j : Nat) : (exC K E s j sc).1 = sc.1 := by
  unfold exC
  split
  · exact (scB_l _ _ _ _).1
  · rfl
end
