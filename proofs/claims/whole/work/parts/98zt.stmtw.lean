/-! STATEMENTS, pure: how much they take, by what is left of the text -/
theorem rm_gt' {β : Nat → Nat} {n k k' : Nat} (e : k' = k + 1) (h : 3 ≤ qK β n k) : rm β n k' + 1 ≤ rm β n k ∧ qI β n k' = qI β n k ∧ qL β n k' = qL β n k ∧ qK β n k' ≠ 1 := by
  subst e
  exact rm_gt h
theorem rm_w2' {β : Nat → Nat} {n k k' : Nat} (e : k' = k + 1) (h : 22 ≤ qK β n k) : rm β n k' + 2 ≤ rm β n k := by
  subst e
  exact rm_w2 h
def ci (i : Nat) : Nat := if i = 0 then 0 else 4 * i + 1
theorem ci_f (i : Nat) : ci i ≤ 4 * i + 1 ∧ (i = 0 ∧ ci i = 0 ∨ 1 ≤ i ∧ ci i = 4 * i + 1) ∧ ci (i + 1) = 4 * i + 5 := by
  unfold ci
  by_cases h : i = 0
  · rw [if_pos h, if_neg (by omega)]; omega
  · rw [if_neg h, if_neg (by omega)]; omega
def psE (w i D : Nat) (sc : SCs) (at' : List Nat) (x : PT) : Prop := wC x.2.1 + w + x.2.2.2.length ≤ 3 * D + at'.length ∧ at'.length ≤ x.2.2.2.length ∧ 2 * fxM x.2.1 ≤ D ∧ 2 * cnN x.2.1 ≤ D ∧ sc.2.length ≤ x.2.2.1.2.length ∧ 2 * x.2.2.1.2.length ≤ D + 2 * sc.2.length ∧ sc.1.length ≤ x.2.2.1.1.length ∧ (x.2.2.1.1.length = sc.1.length ∨ 23 * x.2.2.1.1.length + ci i ≤ 2 * D + 23 * sc.1.length)
def psH (β : Nat → Nat) (n : Nat) (R : RsT) : Prop :=
  (∀ t dp ind s lp tr ca ra sc at' k x, (t = 0 ∨ t = 5) → qI β n k = ind → (s ≠ 0 → 1 ≤ ind) → R t dp ind s lp tr ca ra sc at' k = .inr x → 3 ≤ qK β n k ∧ k < x.1 ∧ rem β n x.1 + ind + 2 ≤ rem β n k ∧ psE 0 ind (rem β n k - rem β n x.1) sc at' x) ∧
  (∀ t dp ind s lp tr ca ra sc at' k x, (t = 1 ∨ t = 4) → (s ≠ 0 → 1 ≤ ind) → R t dp ind s lp tr ca ra sc at' k = .inr x → k ≤ x.1 ∧ rem β n x.1 ≤ rem β n k ∧ psE 0 ind (rem β n k - rem β n x.1) sc at' x ∧ (qK β n k = 1 ∨ qI β n k ≠ ind ∨ k < x.1 ∧ rem β n x.1 + ind + 2 ≤ rem β n k)) ∧
  (∀ t dp ind s lp tr ca ra sc at' k x, (t = 2 ∨ t = 6) → R t dp ind s lp tr ca ra sc at' k = .inr x → qK β n k = 13 ∧ k + 3 ≤ x.1 ∧ rem β n x.1 + ind + 5 ≤ rm β n k ∧ psE 0 (ind + 1) (rm β n k - 2 - rem β n x.1) sc at' x) ∧
  (∀ dp ind s lp tr ca ra sc at' k x, (qK β n k = 40 ∨ qK β n k = 41) → R 3 dp ind s lp tr ca ra sc at' k = .inr x → k < x.1 ∧ rem β n x.1 + ind + 8 ≤ rm β n k ∧ psE 8 (ind + 1) (rm β n k - rem β n x.1) sc at' x)
theorem sb_inr {r : PSr} {f : PT → PSr} {y : PT} (h : sb r f = .inr y) : ∃ x, r = .inr x ∧ f x = .inr y := by
  cases r with
  | inl l => cases h
  | inr x => exact ⟨x, rfl, h⟩
theorem pb_inr {l : Nat} {r : PR} {f : Nat × Nat × List Op → PSr} {y : PT} (h : pb l r f = .inr y) : ∃ x, r = some x ∧ f x = .inr y := by
  cases r with
  | none => cases h
  | some x => exact ⟨x, rfl, h⟩
theorem ln_inr {K : Nat → Nat} {l k : Nat} {os : List Op} {sc : SCs} {at' : List Nat} {y : PT} (h : ln K l k os sc at' = .inr y) : K k = 2 ∧ y = (k + 1, os, sc, at') := by
  unfold ln at h
  split at h
  · rename_i h2
    injection h with h
    exact ⟨h2, h.symm⟩
  · cases h
theorem if_inr {p : Prop} [Decidable p] {l : Nat} {r : PSr} {y : PT} (h : (if p then r else .inl l) = .inr y) : p ∧ r = .inr y := by
  split at h
  · rename_i hp; exact ⟨hp, h⟩
  · cases h
theorem ifn_inr {p : Prop} [Decidable p] {l : Nat} {r : PSr} {y : PT} (h : (if p then .inl l else r) = .inr y) : ¬ p ∧ r = .inr y := by
  split at h
  · cases h
  · rename_i hp; exact ⟨hp, h⟩
theorem scB_l (E : Nat → Nat → Bool) (s k : Nat) (sc : SCs) : (scB E s k sc).1 = sc.1 ∧ sc.2.length ≤ (scB E s k sc).2.length ∧ (scB E s k sc).2.length ≤ sc.2.length + 1 := by
  unfold scB
  split
  · exact ⟨rfl, Nat.le_refl _, Nat.le_succ _⟩
  · split
    · exact ⟨rfl, Nat.le_refl _, Nat.le_succ _⟩
    · refine ⟨rfl, ?_, ?_⟩ <;> (unfold scA; dsimp only; rw [List.length_append]; show _ ≤ _; simp)
theorem scT_l (E : Nat → Nat → Bool) (s g k : Nat) (sc : SCs) : (scT E s g k sc).1 = sc.1 ∧ sc.2.length ≤ (scT E s g k sc).2.length ∧ (scT E s g k sc).2.length ≤ sc.2.length + 1 := by
  unfold scT
  split
  · exact scB_l E s k sc
  · exact ⟨rfl, Nat.le_refl _, Nat.le_succ _⟩
theorem scG_l {E : Nat → Nat → Bool} {s k : Nat} {sc sc1 : SCs} (h : scG E s k sc = some sc1) : sc1.1 = sc.1 ∧ sc.2.length ≤ sc1.2.length ∧ sc1.2.length ≤ sc.2.length + 1 := by
  unfold scG at h
  split at h
  · injection h with h
    subst h
    refine ⟨rfl, ?_, ?_⟩ <;> (unfold scA; dsimp only; rw [List.length_append]; simp)
  · split at h
    · cases h
    · injection h with h
      subst h
      refine ⟨rfl, ?_, ?_⟩ <;> (unfold scU; dsimp only; rw [List.length_map]; omega)
theorem scP_l {E : Nat → Nat → Bool} {s k : Nat} {sc sc1 : SCs} (h : scP E s k sc = some sc1) : sc1.1 = sc.1 ∧ sc1.2.length = sc.2.length + 1 := by
  unfold scP at h
  split at h
  · cases h
  · injection h with h
    subst h
    refine ⟨rfl, ?_⟩
    unfold scA; dsimp only; rw [List.length_append]; rfl
theorem lC_60 {o : Op} (h : o.1 = 60) : lC o = 2 := lC_2 (by omega)
theorem lR_60 {K : Nat → Nat} {o : Op} (h : o.1 = 60) : lR K o = 2 := by
  unfold lR
  rw [h]
  rfl
theorem rsv_w {K : Nat → Nat} {ce re : Nat} : ∀ (os : List Op) (c r : Nat), wC (rsv K ce re c r os) = wC os ∧ wR K (rsv K ce re c r os) = wR K os ∧ fxM (rsv K ce re c r os) = fxM os ∧ cnN (rsv K ce re c r os) = cnN os := by
  intro os
  induction os with
  | nil => intro c r; exact ⟨rfl, rfl, rfl, rfl⟩
  | cons o l ih =>
    intro c r
    obtain ⟨h1, h2, h3, h4⟩ := ih (c + lC o) (r + lR K o)
    by_cases h : o.1 = 60
    · refine ⟨?_, ?_, ?_, ?_⟩
      · show lC (if o.1 = 60 then _ else o) + _ = lC o + _
        rw [if_pos h, h1, lC_60 h]; rfl
      · show lR K (if o.1 = 60 then _ else o) + _ = lR K o + _
        rw [if_pos h, h2, lR_60 h]; rfl
      · show fxO (if o.1 = 60 then _ else o) + _ = fxO o + _
        have e : fxO o = 0 := if_neg (fun c => by have := c.2.1; omega)
        rw [if_pos h, h3, e]; rfl
      · show cnO (if o.1 = 60 then _ else o) + _ = cnO o + _
        have e : cnO o = 0 := if_neg (by omega)
        rw [if_pos h, h4, e]; rfl
    · refine ⟨?_, ?_, ?_, ?_⟩
      · show lC (if o.1 = 60 then _ else o) + _ = lC o + _
        rw [if_neg h, h1]
      · show lR K (if o.1 = 60 then _ else o) + _ = lR K o + _
        rw [if_neg h, h2]
      · show fxO (if o.1 = 60 then _ else o) + _ = fxO o + _
        rw [if_neg h, h3]
      · show cnO (if o.1 = 60 then _ else o) + _ = cnO o + _
        rw [if_neg h, h4]
theorem fx_s (t x s : Nat) (a b : Int) : fxO (t, [x, s], a, b) ≤ 1 ∧ (s = 0 → fxO (t, [x, s], a, b) = 0) := by
  unfold fxO
  refine ⟨?_, fun h => if_neg (fun c => c.2.2 h)⟩
  split <;> omega
theorem untr_w (K : Nat → Nat) (tr tl : Nat) : wC (untr tr tl) ≤ 2 ∧ fxM (untr tr tl) = 0 ∧ cnN (untr tr tl) = 0 := by
  unfold untr
  split
  · exact ⟨Nat.le_refl _, rfl, rfl⟩
  · exact ⟨Nat.zero_le _, rfl, rfl⟩
section
variable {β : Nat → Nat} {n : Nat} {E : Nat → Nat → Bool} {R : RsT}
/-- a simple statement, from a line's first token on -/
theorem simp_G {w k q : Nat} {os : List Op} {sc sc1 : SCs} {at' : List Nat} (h3 : 3 ≤ qK β n k) (hq : k < q) (hK : qK β n q = 2) (hI : qI β n q = qI β n k) (d : Nat) (hd : rm β n q + d ≤ rm β n k) (hw : wC os + w ≤ 3 * d + 3) (hf : 2 * fxM os ≤ qI β n k + d + 1) (hc : 2 * cnN os ≤ d + 1) (hs1 : sc1.1 = sc.1) (hs2 : sc.2.length ≤ sc1.2.length) (hs3 : 2 * sc1.2.length ≤ 2 * sc.2.length + d + 1) (hd1 : 1 ≤ d) : k < q + 1 ∧ rem β n (q + 1) + qI β n k + 2 ≤ rem β n k ∧ psE w (qI β n k) (rem β n k - rem β n (q + 1)) sc at' (q + 1, os, sc1, at') := by
  have h1 := rm_nl hK
  have h2 := rem_rm (β := β) (n := n) (k := k) (by omega)
  refine ⟨by omega, by omega, ?_, Nat.le_refl _, ?_, ?_, hs2, ?_, ?_, Or.inl (by rw [hs1])⟩
  · dsimp only; omega
  · dsimp only; omega
  · dsimp only; omega
  · dsimp only; omega
  · dsimp only; rw [hs1]; exact Nat.le_refl _
theorem psBind_G {s k : Nat} {sc : SCs} {at' : List Nat} {x : PT} (hs : s ≠ 0 → 1 ≤ qI β n k) (h : psBind (qK β n) (qL β n) E s sc at' k = .inr x) : 3 ≤ qK β n k ∧ k < x.1 ∧ rem β n x.1 + qI β n k + 2 ≤ rem β n k ∧ psE 2 (qI β n k) (rem β n k - rem β n x.1) sc at' x := by
  unfold psBind at h
  obtain ⟨r, hr, h⟩ := pb_inr h
  obtain ⟨a1, a2, a3, a4, a5, a6, a7, a8, a9⟩ := ex_pm hr
  obtain ⟨t1, t2, t3⟩ := scT_l E s r.2.1 (r.1 - 1) sc
  split at h
  · rename_i h19
    obtain ⟨hg, h⟩ := ifn_inr h
    obtain ⟨q, hq, h⟩ := pb_inr h
    obtain ⟨b1, b2, b3, b4, b5, b6, b7, b8, b9⟩ := ex_pm hq
    obtain ⟨hK, rfl⟩ := ln_inr h
    obtain ⟨g1, g2, g3, g4⟩ := rm_gt (β := β) (n := n) (k := r.1) (by omega)
    obtain ⟨w1, w2, w3⟩ := rtl_w hr hg (a := 19) (b := 41) (c := 46) (by omega) (by omega) (by omega)
    refine ⟨a2, simp_G a2 (by omega) hK (by omega) (q.1 - k) (by omega) ?_ ?_ ?_ t1 t2 (by omega) (by omega)⟩
    · rw [wC_app, w1]; omega
    · rw [fxM_app, w2]; omega
    · rw [cnN_app, w3]; omega
  split at h
  · obtain ⟨hK, rfl⟩ := ln_inr h
    refine ⟨a2, simp_G a2 (by omega) hK (by omega) (r.1 - k) (by omega) ?_ ?_ ?_ rfl (Nat.le_refl _) (by omega) (by omega)⟩
    · rw [wC_app]; show wC _ + (1 + 0) + 2 ≤ _; omega
    · rw [fxM_app]; show 2 * (fxM _ + (0 + 0)) ≤ _; omega
    · rw [cnN_app]; show 2 * (cnN _ + (0 + 0)) ≤ _; omega
  · rename_i hch
    obtain ⟨hg, h⟩ := ifn_inr h
    obtain ⟨q, hq, h⟩ := pb_inr h
    obtain ⟨b1, b2, b3, b4, b5, b6, b7, b8, b9⟩ := ex_pm hq
    obtain ⟨hK, rfl⟩ := ln_inr h
    have hch2 : 22 ≤ qK β n r.1 ∧ 27 ≤ chO (qK β n r.1) ∧ chO (qK β n r.1) ≤ 29 := by
      unfold chO at hch ⊢
      repeat' split at hch
      all_goals (repeat' split) <;> omega
    obtain ⟨g1, g2, g3, g4⟩ := rm_gt (β := β) (n := n) (k := r.1) (by omega)
    have g5 := rm_w2 (β := β) (n := n) (k := r.1) (by omega)
    obtain ⟨w1, w2, w3⟩ := rtl_w hr hg (a := 18) (b := 40) (c := 45) (by omega) (by omega) (by omega)
    have hlast : ∀ o : Op, o = (if r.2.1 = 1 then (19, [r.1 - 1, s], 0, 0) else if r.2.1 = 2 then (42, [], 0, 0) else (47, [r.1 - 1], 0, 0)) → lC o ≤ 3 ∧ fxO o ≤ 1 ∧ (s = 0 → fxO o = 0) ∧ cnO o = 0 := fun o ho => by
      subst ho
      split
      · have := fx_s 19 (r.1 - 1) s 0 0
        exact ⟨Nat.le_refl _, this.1, this.2, rfl⟩
      · split
        · exact ⟨Nat.le_of_ble_eq_true rfl, Nat.zero_le _, fun _ => rfl, rfl⟩
        · exact ⟨Nat.le_of_ble_eq_true rfl, Nat.zero_le _, fun _ => rfl, rfl⟩
    obtain ⟨l1, l2, l3, l4⟩ := hlast _ rfl
    refine ⟨a2, simp_G a2 (by omega) hK (by omega) (q.1 - k + 1) (by omega) ?_ ?_ ?_ t1 t2 (by omega) (by omega)⟩
    · rw [wC_app, wC_app, w1]
      show wC _ + (wC _ + (lC _ + (lC _ + 0))) + 2 ≤ _
      rw [lC_op (by omega)]
      omega
    · rw [fxM_app, fxM_app, w2]
      show 2 * (fxM _ + (fxM _ + (fxO _ + (fxO _ + 0)))) ≤ _
      have e : fxO (chO (qK β n r.1), [qK β n r.1], 0, 0) = 0 := if_neg (fun c => by have := c.2.1; dsimp only at this; omega)
      rw [e]
      by_cases hs0 : s = 0
      · have := l3 hs0
        omega
      · have := hs hs0
        omega
    · rw [cnN_app, cnN_app, w3]
      show 2 * (cnN _ + (cnN _ + (cnO _ + (cnO _ + 0)))) ≤ _
      rw [cnO_op (by omega), l4]
      omega
theorem psDel_G {s k : Nat} {sc : SCs} {at' : List Nat} {x : PT} (hk : qK β n k = 52) (h : psDel (qK β n) (qL β n) E s sc at' k = .inr x) : k < x.1 ∧ rem β n x.1 + qI β n k + 2 ≤ rem β n k ∧ psE 2 (qI β n k) (rem β n k - rem β n x.1) sc at' x := by
  unfold psDel at h
  obtain ⟨r, hr, h⟩ := pb_inr h
  obtain ⟨a1, a2, a3, a4, a5, a6, a7, a8, a9⟩ := ex_pm hr
  obtain ⟨t1, t2, t3⟩ := scT_l E s r.2.1 (r.1 - 1) sc
  obtain ⟨hg, h⟩ := ifn_inr h
  obtain ⟨hK, rfl⟩ := ln_inr h
  obtain ⟨g1, g2, g3, g4⟩ := rm_gt (β := β) (n := n) (k := k) (by omega)
  obtain ⟨w1, w2, w3⟩ := rtl_w hr hg (a := 20) (b := 43) (c := 48) (by omega) (by omega) (by omega)
  refine simp_G (by omega) (by omega) hK (by omega) (r.1 - k) (by omega) ?_ ?_ ?_ t1 t2 (by omega) (by omega)
  · rw [w1]; omega
  · rw [w2]; omega
  · rw [w3]; omega
theorem psRet_G {s k : Nat} {sc : SCs} {at' : List Nat} {x : PT} (hk : qK β n k = 48) (h : psRet (qK β n) (qL β n) s sc at' k = .inr x) : k < x.1 ∧ rem β n x.1 + qI β n k + 2 ≤ rem β n k ∧ psE 2 (qI β n k) (rem β n k - rem β n x.1) sc at' x := by
  unfold psRet at h
  obtain ⟨hs, h⟩ := ifn_inr h
  obtain ⟨g1, g2, g3, g4⟩ := rm_gt (β := β) (n := n) (k := k) (by omega)
  split at h
  · rename_i hK
    injection h with h
    subst h
    exact simp_G (by omega) (by omega) hK (by omega) 1 (by omega) (by show 2 + (1 + 0) + 2 ≤ _; omega) (by show 2 * (0 + (0 + 0)) ≤ _; omega) (by show 2 * (1 + (0 + 0)) ≤ _; omega) rfl (Nat.le_refl _) (by omega) (by omega)
  · obtain ⟨r, hr, h⟩ := pb_inr h
    obtain ⟨a1, a2, a3, a4, a5, a6, a7, a8, a9⟩ := ex_pm hr
    obtain ⟨hK, rfl⟩ := ln_inr h
    refine simp_G (by omega) (by omega) hK (by omega) (r.1 - k) (by omega) ?_ ?_ ?_ rfl (Nat.le_refl _) (by omega) (by omega)
    · rw [wC_app]; show wC _ + (1 + 0) + 2 ≤ _; omega
    · rw [fxM_app]; show 2 * (fxM _ + (0 + 0)) ≤ _; omega
    · rw [cnN_app]; show 2 * (cnN _ + (0 + 0)) ≤ _; omega
theorem psRse_G {s k : Nat} {sc : SCs} {at' : List Nat} {x : PT} (hk : qK β n k = 56) (h : psRse (qK β n) (qL β n) s sc at' k = .inr x) : k < x.1 ∧ rem β n x.1 + qI β n k + 2 ≤ rem β n k ∧ psE 2 (qI β n k) (rem β n k - rem β n x.1) sc at' x := by
  unfold psRse at h
  obtain ⟨g1, g2, g3, g4⟩ := rm_gt (β := β) (n := n) (k := k) (by omega)
  obtain ⟨r, hr, h⟩ := pb_inr h
  obtain ⟨a1, a2, a3, a4, a5, a6, a7, a8, a9⟩ := ex_pm hr
  obtain ⟨hK, rfl⟩ := ln_inr h
  refine simp_G (by omega) (by omega) hK (by omega) (r.1 - k) (by omega) ?_ ?_ ?_ rfl (Nat.le_refl _) (by omega) (by omega)
  · rw [wC_app]; show wC _ + (1 + 0) + 2 ≤ _; omega
  · rw [fxM_app]; show 2 * (fxM _ + (0 + 0)) ≤ _; omega
  · rw [cnN_app]; show 2 * (cnN _ + (0 + 0)) ≤ _; omega
theorem psLv_G {lp : LpT} {tr ca ra k : Nat} {b : Bool} {sc : SCs} {at' : List Nat} {x : PT} (hk : qK β n k = 49 ∨ qK β n k = 50) (h : psLv (qK β n) (qL β n) lp tr ca ra b sc at' k = .inr x) : k < x.1 ∧ rem β n x.1 + qI β n k + 2 ≤ rem β n k ∧ psE 2 (qI β n k) (rem β n k - rem β n x.1) sc at' x := by
  unfold psLv at h
  cases lp with
  | none => cases h
  | some y =>
    obtain ⟨hK, rfl⟩ := ln_inr h
    obtain ⟨g1, g2, g3, g4⟩ := rm_gt (β := β) (n := n) (k := k) (by omega)
    obtain ⟨u1, u2, u3⟩ := untr_w (qK β n) tr y.2.2
    refine simp_G (by omega) (by omega) hK (by omega) 1 (by omega) ?_ ?_ ?_ rfl (Nat.le_refl _) (by omega) (by omega)
    · rw [wC_app]
      cases b
      · show wC _ + (2 + 0) + 2 ≤ _; omega
      · show wC _ + (2 + 0) + 2 ≤ _; omega
    · rw [fxM_app, u2]
      cases b
      · show 2 * (0 + (0 + 0)) ≤ _; omega
      · show 2 * (0 + (0 + 0)) ≤ _; omega
    · rw [cnN_app, u3]
      cases b
      · show 2 * (0 + (0 + 0)) ≤ _; omega
      · show 2 * (0 + (0 + 0)) ≤ _; omega
theorem psGl_G {l s : Nat} {at' : List Nat} : ∀ (m : Nat) (sc : SCs) (k : Nat) (x : PT), psGl (qK β n) E l s at' m sc k = .inr x → ∃ q sc1, k < q ∧ qK β n q = 2 ∧ qI β n q = qI β n k ∧ x = (q + 1, [], sc1, at') ∧ sc1.1 = sc.1 ∧ sc.2.length ≤ sc1.2.length ∧ 2 * sc1.2.length + rm β n q ≤ 2 * sc.2.length + rm β n k + 1 ∧ rm β n q + 1 ≤ rm β n k := by
  intro m
  induction m with
  | zero => intro sc k x h; cases h
  | succ m ih =>
    intro sc k x h
    unfold psGl at h
    obtain ⟨h3, h⟩ := if_inr h
    obtain ⟨g1, g2, g3, g4⟩ := rm_gt (β := β) (n := n) (k := k) (by omega)
    cases hg : scG E s k sc with
    | none => rw [hg] at h; cases h
    | some sc1 =>
      rw [hg] at h
      obtain ⟨c1, c2, c3⟩ := scG_l hg
      dsimp only at h
      split at h
      · rename_i h12
        obtain ⟨f1, f2, f3, f4⟩ := rm_gt' (β := β) (n := n) (k := k + 1) (k' := k + 2) rfl (by omega)
        obtain ⟨q, sc2, b1, b2, b3, b4, b5, b6, b7, b8⟩ := ih _ _ _ h
        exact ⟨q, sc2, by omega, b2, by omega, b4, by rw [b5, c1], by omega, by omega, by omega⟩
      · obtain ⟨hK, rfl⟩ := ln_inr h
        exact ⟨k + 1, sc1, by omega, hK, g2, rfl, c1, c2, by omega, by omega⟩
/-- blocks around: what they add -/
theorem psI_G (hH : psH β n R) {dp ind s : Nat} {lp : LpT} {tr ca ra k : Nat} {sc : SCs} {at' : List Nat} {x : PT} (hk : qK β n k = 40 ∨ qK β n k = 41) (h : psI (qK β n) (qL β n) (qI β n) R dp ind s lp tr ca ra sc at' k = .inr x) : k < x.1 ∧ rem β n x.1 + ind + 8 ≤ rm β n k ∧ psE 8 (ind + 1) (rm β n k - rem β n x.1) sc at' x := by
  obtain ⟨H0, H1, H2, H3⟩ := hH
  unfold psI at h
  obtain ⟨g1, g2, g3, g4⟩ := rm_gt (β := β) (n := n) (k := k) (by omega)
  have g5 := rm_w2 (β := β) (n := n) (k := k) (by omega)
  obtain ⟨r, hr, h⟩ := pb_inr h
  obtain ⟨a1, a2, a3, a4, a5, a6, a7, a8, a9⟩ := ex_pm hr
  obtain ⟨b, hb, h⟩ := sb_inr h
  obtain ⟨b1, b2, b3, c1, c2, c3, c4, c5, c6, c7, c8⟩ := H2 2 _ _ _ _ _ _ _ _ _ _ _ (Or.inl rfl) hb
  have hci := ci_f ind
  split at h
  · rename_i hc
    obtain ⟨e, he, h⟩ := sb_inr h
    injection h with h
    subst h
    have hrm := rem_rm (β := β) (n := n) (k := b.1) (by omega)
    have hE : ∃ w i D, psE w i D b.2.2.1 at' e ∧ 4 ≤ w ∧ D + rem β n e.1 ≤ rm β n b.1 ∧ i = ind + 1 ∧ b.1 < e.1 ∧ rem β n e.1 ≤ rm β n b.1 ∧ D ≤ rm β n b.1 - rem β n e.1 := by
      split at he
      · rename_i h41
        obtain ⟨d1, d2, d3⟩ := H3 _ _ _ _ _ _ _ _ _ _ _ (Or.inr h41) he
        exact ⟨8, _, _, d3, by omega, by omega, rfl, d1, by omega, Nat.le_refl _⟩
      · obtain ⟨f1, f2, f3, f4⟩ := rm_gt (β := β) (n := n) (k := b.1) (by omega)
        have f5 := rm_w2 (β := β) (n := n) (k := b.1) (by omega)
        obtain ⟨d1, d2, d3, d4, d5, d6, d7, d8, d9, d10, d11⟩ := H2 2 _ _ _ _ _ _ _ _ _ _ _ (Or.inl rfl) he
        refine ⟨4, ind + 1, rm β n b.1 - rem β n e.1, ⟨by omega, d5, by omega, by omega, d8, by omega, d10, ?_⟩, by omega, by omega, rfl, by omega, by omega, Nat.le_refl _⟩
        rcases d11 with d11 | d11
        · exact Or.inl d11
        · exact Or.inr (by omega)
    obtain ⟨w, i, D, ⟨d1, d2, d3, d4, d5, d6, d7, d8⟩, hw, hD, hi, hbe, hle, hD2⟩ := hE
    subst hi
    refine ⟨by dsimp only; omega, by dsimp only; omega, ?_, Nat.le_refl _, ?_, ?_, by dsimp only; omega, by dsimp only; omega, by dsimp only; omega, ?_⟩
    · dsimp only
      rw [wC_app]
      show wC _ + (2 + wC _) + 8 + _ ≤ _
      rw [wC_app]
      show wC _ + (2 + (wC _ + (2 + wC _))) + 8 + _ ≤ _
      omega
    · dsimp only
      rw [fxM_app]
      show 2 * (fxM _ + (0 + fxM _)) ≤ _
      rw [fxM_app]
      show 2 * (fxM _ + (0 + (fxM _ + (0 + fxM _)))) ≤ _
      omega
    · dsimp only
      rw [cnN_app]
      show 2 * (cnN _ + (0 + cnN _)) ≤ _
      rw [cnN_app]
      show 2 * (cnN _ + (0 + (cnN _ + (0 + cnN _)))) ≤ _
      omega
    · dsimp only
      rcases c8 with c8 | c8
      · rcases d8 with d8 | d8
        · exact Or.inl (by omega)
        · exact Or.inr (by omega)
      · rcases d8 with d8 | d8
        · exact Or.inr (by omega)
        · exact Or.inr (by omega)
  · injection h with h
    subst h
    refine ⟨by dsimp only; omega, by dsimp only; omega, ?_, Nat.le_refl _, ?_, ?_, by dsimp only; omega, by dsimp only; omega, by dsimp only; omega, ?_⟩
    · dsimp only
      rw [wC_app]
      show wC _ + (2 + wC _) + 8 + _ ≤ _
      rw [wC_app]
      show wC _ + (2 + (wC _ + (2 + 0))) + 8 + _ ≤ _
      omega
    · dsimp only
      rw [fxM_app]
      show 2 * (fxM _ + (0 + fxM _)) ≤ _
      rw [fxM_app]
      show 2 * (fxM _ + (0 + (fxM _ + (0 + 0)))) ≤ _
      omega
    · dsimp only
      rw [cnN_app]
      show 2 * (cnN _ + (0 + cnN _)) ≤ _
      rw [cnN_app]
      show 2 * (cnN _ + (0 + (cnN _ + (0 + 0)))) ≤ _
      omega
    · dsimp only
      rcases c8 with c8 | c8
      · exact Or.inl c8
      · exact Or.inr (by omega)
theorem psWh_G (hH : psH β n R) {dp ind s : Nat} {tr ca ra k : Nat} {sc : SCs} {at' : List Nat} {x : PT} (hk : qK β n k = 43) (hI : qI β n k = ind) (h : psWh (qK β n) (qL β n) R dp ind s tr ca ra sc at' k = .inr x) : k < x.1 ∧ rem β n x.1 + ind + 2 ≤ rem β n k ∧ psE 2 ind (rem β n k - rem β n x.1) sc at' x := by
  obtain ⟨H0, H1, H2, H3⟩ := hH
  unfold psWh at h
  obtain ⟨g1, g2, g3, g4⟩ := rm_gt (β := β) (n := n) (k := k) (by omega)
  have g5 := rm_w2 (β := β) (n := n) (k := k) (by omega)
  obtain ⟨r, hr, h⟩ := pb_inr h
  obtain ⟨a1, a2, a3, a4, a5, a6, a7, a8, a9⟩ := ex_pm hr
  obtain ⟨b, hb, h⟩ := sb_inr h
  obtain ⟨b1, b2, b3, c1, c2, c3, c4, c5, c6, c7, c8⟩ := H2 2 _ _ _ _ _ _ _ _ _ _ _ (Or.inl rfl) hb
  have hci := ci_f ind
  have hrm := rem_rm (β := β) (n := n) (k := k) (by omega)
  injection h with h
  subst h
  refine ⟨by dsimp only; omega, by dsimp only; omega, ?_, Nat.le_refl _, ?_, ?_, by dsimp only; omega, by dsimp only; omega, by dsimp only; omega, ?_⟩
  · dsimp only
    show 2 + (2 + wC (_ ++ _)) + 2 + _ ≤ _
    rw [wC_app]
    show 2 + (2 + (wC _ + (2 + wC (_ ++ _)))) + 2 + _ ≤ _
    rw [wC_app, (rsv_w _ _ _).1]
    show 2 + (2 + (wC _ + (2 + (wC _ + (2 + 0))))) + 2 + _ ≤ _
    omega
  · dsimp only
    show 2 * (0 + (0 + fxM (_ ++ _))) ≤ _
    rw [fxM_app]
    show 2 * (0 + (0 + (fxM _ + (0 + fxM (_ ++ _))))) ≤ _
    rw [fxM_app, (rsv_w _ _ _).2.2.1]
    show 2 * (0 + (0 + (fxM _ + (0 + (fxM _ + (0 + 0)))))) ≤ _
    omega
  · dsimp only
    show 2 * (0 + (0 + cnN (_ ++ _))) ≤ _
    rw [cnN_app]
    show 2 * (0 + (0 + (cnN _ + (0 + cnN (_ ++ _))))) ≤ _
    rw [cnN_app, (rsv_w _ _ _).2.2.2]
    show 2 * (0 + (0 + (cnN _ + (0 + (cnN _ + (0 + 0)))))) ≤ _
    omega
  · dsimp only
    rcases c8 with c8 | c8
    · exact Or.inl c8
    · exact Or.inr (by omega)
theorem psFor_G (hH : psH β n R) {dp ind s : Nat} {tr ca ra k : Nat} {sc : SCs} {at' : List Nat} {x : PT} (hk : qK β n k = 44) (hI : qI β n k = ind) (h : psFor (qK β n) (qL β n) E R dp ind s tr ca ra sc at' k = .inr x) : k < x.1 ∧ rem β n x.1 + ind + 2 ≤ rem β n k ∧ psE 2 ind (rem β n k - rem β n x.1) sc at' x := by
  obtain ⟨H0, H1, H2, H3⟩ := hH
  unfold psFor at h
  obtain ⟨⟨h3, h45⟩, h⟩ := if_inr h
  obtain ⟨g1, g2, g3, g4⟩ := rm_gt (β := β) (n := n) (k := k) (by omega)
  have g5 := rm_w2 (β := β) (n := n) (k := k) (by omega)
  obtain ⟨f1, f2, f3, f4⟩ := rm_gt' (β := β) (n := n) (k := k + 1) (k' := k + 2) rfl (by omega)
  obtain ⟨i1, i2, i3, i4⟩ := rm_gt' (β := β) (n := n) (k := k + 2) (k' := k + 3) rfl (by omega)
  have i5 := rm_w2' (β := β) (n := n) (k := k + 2) (k' := k + 3) rfl (by omega)
  obtain ⟨r, hr, h⟩ := pb_inr h
  obtain ⟨a1, a2, a3, a4, a5, a6, a7, a8, a9⟩ := ex_pm hr
  obtain ⟨b, hb, h⟩ := sb_inr h
  obtain ⟨s1, s2, s3⟩ := scB_l E s (k + 1) sc
  obtain ⟨b1, b2, b3, c1, c2, c3, c4, c5, c6, c7, c8⟩ := H2 2 _ _ _ _ _ _ _ _ _ _ _ (Or.inl rfl) hb
  rw [s1] at c7 c8
  have hci := ci_f ind
  have hrm := rem_rm (β := β) (n := n) (k := k) (by omega)
  have hfx := fx_s 19 (k + 1) s 0 0
  injection h with h
  subst h
  refine ⟨by dsimp only; omega, by dsimp only; omega, ?_, Nat.le_refl _, ?_, ?_, by dsimp only; omega, by dsimp only; omega, by dsimp only; omega, ?_⟩
  · dsimp only
    rw [wC_app]
    show wC _ + (1 + (2 + (2 + (2 + (3 + wC (_ ++ _)))))) + 2 + _ ≤ _
    rw [wC_app, (rsv_w _ _ _).1]
    show wC _ + (1 + (2 + (2 + (2 + (3 + (wC _ + (2 + (1 + 0)))))))) + 2 + _ ≤ _
    omega
  · dsimp only
    rw [fxM_app]
    show 2 * (fxM _ + (0 + (0 + (0 + (0 + (fxO _ + fxM (_ ++ _))))))) ≤ _
    rw [fxM_app, (rsv_w _ _ _).2.2.1]
    show 2 * (fxM _ + (0 + (0 + (0 + (0 + (fxO _ + (fxM _ + (0 + (0 + 0))))))))) ≤ _
    omega
  · dsimp only
    rw [cnN_app]
    show 2 * (cnN _ + (0 + (0 + (0 + (0 + (0 + cnN (_ ++ _))))))) ≤ _
    rw [cnN_app, (rsv_w _ _ _).2.2.2]
    show 2 * (cnN _ + (0 + (0 + (0 + (0 + (0 + (cnN _ + (0 + (0 + 0))))))))) ≤ _
    omega
  · dsimp only
    rcases c8 with c8 | c8
    · exact Or.inl c8
    · exact Or.inr (by omega)
theorem exO_w (K : Nat → Nat) (s k : Nat) : wC (exO K s k) ≤ 3 ∧ fxM (exO K s k) ≤ 1 ∧ cnN (exO K s k) = 0 := by
  unfold exO
  have := fx_s 19 k s 0 0
  split
  · exact ⟨Nat.le_refl _, by show 0 + (fxO _ + 0) ≤ 1; omega, rfl⟩
  · exact ⟨Nat.le_of_ble_eq_true rfl, Nat.zero_le _, rfl⟩
theorem exC_l (K : Nat → Nat) (s k : Nat) (sc : SCs) : (exC K E s k sc).1 = sc.1 ∧ sc.2.length ≤ (exC K E s k sc).2.length ∧ (exC K E s k sc).2.length ≤ sc.2.length + 1 := by
  unfold exC
  split
  · exact scB_l E s k sc
  · exact ⟨rfl, Nat.le_refl _, Nat.le_succ _⟩
theorem psTry_G (hH : psH β n R) {dp ind s : Nat} {lp : LpT} {tr ca ra k : Nat} {sc : SCs} {at' : List Nat} {x : PT} (hk : qK β n k = 54) (hI : qI β n k = ind) (h : psTry (qK β n) (qL β n) (qI β n) E R dp ind s lp tr ca ra sc at' k = .inr x) : k < x.1 ∧ rem β n x.1 + ind + 2 ≤ rem β n k ∧ psE 2 ind (rem β n k - rem β n x.1) sc at' x := by
  obtain ⟨H0, H1, H2, H3⟩ := hH
  unfold psTry at h
  obtain ⟨g1, g2, g3, g4⟩ := rm_gt (β := β) (n := n) (k := k) (by omega)
  have g5 := rm_w2 (β := β) (n := n) (k := k) (by omega)
  obtain ⟨b, hb, h⟩ := sb_inr h
  obtain ⟨b1, b2, b3, c1, c2, c3, c4, c5, c6, c7, c8⟩ := H2 2 _ _ _ _ _ _ _ _ _ _ _ (Or.inl rfl) hb
  obtain ⟨⟨h55, hbi⟩, h⟩ := if_inr h
  obtain ⟨e, he, h⟩ := sb_inr h
  obtain ⟨d1, d2, d3, u1, u2, u3, u4, u5, u6, u7, u8⟩ := H2 2 _ _ _ _ _ _ _ _ _ _ _ (Or.inl rfl) he
  obtain ⟨s1, s2, s3⟩ := exC_l (E := E) (qK β n) s (b.1 + 1) b.2.2.1
  rw [s1] at u7 u8
  obtain ⟨x1, x2, x3⟩ := exO_w (qK β n) s (b.1 + 1)
  have hci := ci_f ind
  have hrm := rem_rm (β := β) (n := n) (k := k) (by omega)
  have hrb := rem_rm (β := β) (n := n) (k := b.1) (by omega)
  obtain ⟨f1, f2, f3, f4⟩ := rm_gt (β := β) (n := n) (k := b.1) (by omega)
  have f5 := rm_w2 (β := β) (n := n) (k := b.1) (by omega)
  have hx : rm β n (exK (qK β n) (b.1 + 1)) ≤ rm β n (b.1 + 1) ∧ b.1 + 1 ≤ exK (qK β n) (b.1 + 1) := by
    unfold exK
    split
    · rename_i h3
      have := rm_gt (β := β) (n := n) (k := b.1 + 1) (by omega)
      omega
    · exact ⟨Nat.le_refl _, Nat.le_refl _⟩
  injection h with h
  subst h
  refine ⟨by dsimp only; omega, by dsimp only; omega, ?_, Nat.le_refl _, ?_, ?_, by dsimp only; omega, by dsimp only; omega, by dsimp only; omega, ?_⟩
  · dsimp only
    show 2 + wC (_ ++ _) + 2 + _ ≤ _
    rw [wC_app]
    show 2 + (wC _ + (2 + (2 + wC (_ ++ _)))) + 2 + _ ≤ _
    rw [wC_app]
    omega
  · dsimp only
    show 2 * (0 + fxM (_ ++ _)) ≤ _
    rw [fxM_app]
    show 2 * (0 + (fxM _ + (0 + (0 + fxM (_ ++ _))))) ≤ _
    rw [fxM_app]
    omega
  · dsimp only
    show 2 * (0 + cnN (_ ++ _)) ≤ _
    rw [cnN_app]
    show 2 * (0 + (cnN _ + (0 + (0 + cnN (_ ++ _))))) ≤ _
    rw [cnN_app]
    omega
  · dsimp only
    rcases c8 with c8 | c8
    · rcases u8 with u8 | u8
      · exact Or.inl (by omega)
      · exact Or.inr (by omega)
    · rcases u8 with u8 | u8
      · exact Or.inr (by omega)
      · exact Or.inr (by omega)
theorem psPr_G {s : Nat} : ∀ (m c : Nat) (sc : SCs) (k : Nat) (x : Nat × SCs × Nat), psPr (qK β n) E s m c sc k = some x → k < x.1 ∧ rm β n x.1 + 2 ≤ rm β n k ∧ qI β n x.1 = qI β n k ∧ qL β n x.1 = qL β n k ∧ x.2.1.1 = sc.1 ∧ sc.2.length ≤ x.2.1.2.length ∧ 2 * x.2.1.2.length + rm β n x.1 ≤ 2 * sc.2.length + rm β n k ∧ x.2.2 ≤ 8 := by
  intro m
  induction m with
  | zero => intro c sc k x h; cases h
  | succ m ih =>
    intro c sc k x h
    unfold psPr at h
    split at h
    · rename_i h3
      obtain ⟨h3, hc8⟩ := h3
      obtain ⟨g1, g2, g3, g4⟩ := rm_gt (β := β) (n := n) (k := k) (by omega)
      cases hp : scP E s k sc with
      | none => rw [hp] at h; cases h
      | some sc1 =>
        rw [hp] at h
        obtain ⟨c1, c2⟩ := scP_l hp
        dsimp only at h
        split at h
        · obtain ⟨f1, f2, f3, f4⟩ := rm_gt' (β := β) (n := n) (k := k + 1) (k' := k + 2) rfl (by omega)
          obtain ⟨b1, b2, b3, b4, b5, b6, b7, b8⟩ := ih _ _ _ _ h
          exact ⟨by omega, by omega, by omega, by omega, by rw [b5, c1], by omega, by omega, b8⟩
        · split at h
          · obtain ⟨f1, f2, f3, f4⟩ := rm_gt' (β := β) (n := n) (k := k + 1) (k' := k + 2) rfl (by omega)
            injection h with h
            subst h
            exact ⟨by dsimp only; omega, by dsimp only; omega, by dsimp only; omega, by dsimp only; omega, c1, by dsimp only; omega, by dsimp only; omega, by dsimp only; omega⟩
          · cases h
    · cases h
theorem psPs_G {s : Nat} {sc : SCs} {k : Nat} {x : Nat × SCs × Nat} (h : psPs (qK β n) E s sc k = some x) : k < x.1 ∧ rm β n x.1 + 1 ≤ rm β n k ∧ qI β n x.1 = qI β n k ∧ qL β n x.1 = qL β n k ∧ x.2.1.1 = sc.1 ∧ sc.2.length ≤ x.2.1.2.length ∧ 2 * x.2.1.2.length + rm β n x.1 ≤ 2 * sc.2.length + rm β n k ∧ x.2.2 ≤ 8 := by
  unfold psPs at h
  split at h
  · rename_i h7
    obtain ⟨g1, g2, g3, g4⟩ := rm_gt (β := β) (n := n) (k := k) (by omega)
    injection h with h
    subst h
    exact ⟨by dsimp only; omega, by dsimp only; omega, g2, g3, rfl, Nat.le_refl _, by dsimp only; omega, Nat.zero_le _⟩
  · obtain ⟨b1, b2, b3, b4, b5, b6, b7, b8⟩ := psPr_G _ _ _ _ _ h
    exact ⟨b1, by omega, b3, b4, b5, b6, b7, b8⟩
theorem psDef_G (hH : psH β n R) {dp ind s : Nat} {ca ra k : Nat} {sc : SCs} {at' : List Nat} {x : PT} (hk : qK β n k = 46) (hI : qI β n k = ind) (h : psDef (qK β n) (qL β n) E R dp ind s ca ra sc at' k = .inr x) : k < x.1 ∧ rem β n x.1 + ind + 2 ≤ rem β n k ∧ psE 5 ind (rem β n k - rem β n x.1) sc at' x ∧ x.2.2.2 = at' ∧ 2 * fxM x.2.1 + 2 ≤ rem β n k - rem β n x.1 ∧ 2 * x.2.2.1.2.length + 2 ≤ rem β n k - rem β n x.1 + 2 * sc.2.length := by
  obtain ⟨H0, H1, H2, H3⟩ := hH
  unfold psDef at h
  obtain ⟨⟨h3, h6⟩, h⟩ := if_inr h
  have g5 := rm_def hk h3
  obtain ⟨g1, g2, g3, g4⟩ := rm_gt (β := β) (n := n) (k := k) (by omega)
  obtain ⟨f1, f2, f3, f4⟩ := rm_gt' (β := β) (n := n) (k := k + 1) (k' := k + 2) rfl (by omega)
  obtain ⟨i1, i2, i3, i4⟩ := rm_gt' (β := β) (n := n) (k := k + 2) (k' := k + 3) rfl (by omega)
  cases hp : psPs (qK β n) E sc.1.length (sc.1 ++ [(s, ca + 2, ra + 2, k + 1)], sc.2) (k + 3) with
  | none => rw [hp] at h; cases h
  | some p =>
    rw [hp] at h
    obtain ⟨p1, p2, p3, p4, p5, p6, p7, p8⟩ := psPs_G hp
    obtain ⟨b, hb, h⟩ := sb_inr h
    obtain ⟨b1, b2, b3, c1, c2, c3, c4, c5, c6, c7, c8⟩ := H2 2 _ _ _ _ _ _ _ _ _ _ _ (Or.inl rfl) hb
    have hlen : p.2.1.1.length = sc.1.length + 1 := by rw [p5, List.length_append]; rfl
    rw [hlen] at c7 c8
    dsimp only at p6 p7
    have hci := ci_f ind
    have hrm := rem_rm (β := β) (n := n) (k := k) (by omega)
    injection h with h
    subst h
    have hw : wC ((4, [], ((5 + wC b.2.1 : Nat) : Int), ((3 + wR (qK β n) b.2.1 : Nat) : Int)) :: (b.2.1 ++ [(63, [], 0, 0), (8, [], 0, 0), (22, [sc.1.length - 1], 0, 0)])) = wC b.2.1 + 7 := by
      show 2 + wC (_ ++ _) = _
      rw [wC_app]
      show 2 + (wC _ + (2 + (1 + (2 + 0)))) = _
      omega
    have hf : fxM ((4, [], ((5 + wC b.2.1 : Nat) : Int), ((3 + wR (qK β n) b.2.1 : Nat) : Int)) :: (b.2.1 ++ [(63, [], 0, 0), (8, [], 0, 0), (22, [sc.1.length - 1], 0, 0)])) = fxM b.2.1 := by
      show 0 + fxM (_ ++ _) = _
      rw [fxM_app]
      show 0 + (fxM _ + (0 + (0 + (0 + 0)))) = _
      omega
    have hc : cnN ((4, [], ((5 + wC b.2.1 : Nat) : Int), ((3 + wR (qK β n) b.2.1 : Nat) : Int)) :: (b.2.1 ++ [(63, [], 0, 0), (8, [], 0, 0), (22, [sc.1.length - 1], 0, 0)])) = cnN b.2.1 + 1 := by
      show 0 + cnN (_ ++ _) = _
      rw [cnN_app]
      show 0 + (cnN _ + (1 + (0 + (0 + 0)))) = _
      omega
    refine ⟨by dsimp only; omega, by dsimp only; omega, ⟨?_, Nat.le_refl _, ?_, ?_, by dsimp only; omega, by dsimp only; omega, by dsimp only; omega, ?_⟩, rfl, ?_, by dsimp only; omega⟩
    · dsimp only; rw [hw]; omega
    · dsimp only; rw [hf]; omega
    · dsimp only; rw [hc]; omega
    · dsimp only
      rcases c8 with c8 | c8
      · exact Or.inr (by omega)
      · exact Or.inr (by omega)
    · dsimp only; rw [hf]; omega
theorem psDf_G (hH : psH β n R) {dp ind s : Nat} {ca ra k : Nat} {sc : SCs} {at' : List Nat} {x : PT} (hk : qK β n k = 46) (hI : qI β n k = ind) (h : psDf (qK β n) (qL β n) E R dp ind s ca ra sc at' k = .inr x) : k < x.1 ∧ rem β n x.1 + ind + 2 ≤ rem β n k ∧ psE 2 ind (rem β n k - rem β n x.1) sc at' x := by
  unfold psDf at h
  obtain ⟨b, hb, h⟩ := sb_inr h
  obtain ⟨b1, b2, ⟨c1, c2, c3, c4, c5, c6, c7, c8⟩, b4, b5, b6⟩ := psDef_G hH hk hI hb
  obtain ⟨s1, s2, s3⟩ := scB_l E s (k + 1) b.2.2.1
  have hfx := fx_s 19 (k + 1) s 0 0
  rw [b4] at c1
  injection h with h
  subst h
  refine ⟨b1, b2, ?_, Nat.le_refl _, ?_, ?_, by dsimp only; omega, by dsimp only; omega, by dsimp only; rw [s1]; omega, ?_⟩
  · dsimp only; rw [wC_app]; show wC _ + (3 + 0) + 2 + _ ≤ _; omega
  · dsimp only; rw [fxM_app]; show 2 * (fxM _ + (fxO _ + 0)) ≤ _; omega
  · dsimp only; rw [cnN_app]; show 2 * (cnN _ + (0 + 0)) ≤ _; omega
  · dsimp only; rw [s1]; exact c8
theorem clO_w (L : Nat → Nat) (s k b : Nat) (at' : List Nat) : wC (clO L s k b at') ≤ 12 + at'.length ∧ (b ≠ 1 → wC (clO L s k b at') ≤ 9 + at'.length) ∧ fxM (clO L s k b at') ≤ 2 ∧ cnN (clO L s k b at') = 0 := by
  have h23 : lC (23, (k + 1) :: b :: at'.take 40, 0, 0) ≤ 4 + at'.length := by
    rw [lC_23 rfl]
    show 2 + (((at'.take 40).length + 1) + 1) ≤ _
    rw [List.length_take]
    omega
  have f1 := fx_s 19 (k + 1) s 0 0
  have f2 := fx_s 18 (k + 3) s 0 0
  unfold clO
  by_cases hb : b = 1
  · rw [if_pos hb]
    refine ⟨?_, fun h => absurd hb h, ?_, rfl⟩
    · show 2 + (3 + (lC _ + (3 + 0))) ≤ _; omega
    · show 0 + (fxO _ + (0 + (fxO _ + 0))) ≤ _; omega
  · rw [if_neg hb]
    refine ⟨?_, fun _ => ?_, ?_, rfl⟩
    · show 2 + (lC _ + (3 + 0)) ≤ _; omega
    · show 2 + (lC _ + (3 + 0)) ≤ _; omega
    · show 0 + (0 + (fxO _ + 0)) ≤ _; omega
theorem psCl_G (hH : psH β n R) {dp ind s : Nat} {ca ra k : Nat} {sc : SCs} {at' : List Nat} {x : PT} (hk : qK β n k = 47) (hI : qI β n k = ind) (h : psCl (qK β n) (qL β n) E R dp ind s ca ra sc at' k = .inr x) : k < x.1 ∧ rem β n x.1 + ind + 2 ≤ rem β n k ∧ psE 2 ind (rem β n k - rem β n x.1) sc at' x := by
  obtain ⟨H0, H1, H2, H3⟩ := hH
  unfold psCl at h
  obtain ⟨h3, h⟩ := if_inr h
  obtain ⟨g1, g2, g3, g4⟩ := rm_gt (β := β) (n := n) (k := k) (by omega)
  have g5 := rm_w2 (β := β) (n := n) (k := k) (by omega)
  obtain ⟨f1, f2, f3, f4⟩ := rm_gt' (β := β) (n := n) (k := k + 1) (k' := k + 2) rfl (by omega)
  have hci := ci_f ind
  have hrm := rem_rm (β := β) (n := n) (k := k) (by omega)
  have fin : ∀ (j bb : Nat) (b : PT), k < j → rm β n j + (if bb = 1 then 6 else 3) ≤ rm β n k → R 6 (dp + 1) ind s none 0 ca ra sc [] j = .inr b → x = (b.1, b.2.1 ++ clO (qL β n) s k bb b.2.2.2, scB E s (k + 1) b.2.2.1, at') → k < x.1 ∧ rem β n x.1 + ind + 2 ≤ rem β n k ∧ psE 2 ind (rem β n k - rem β n x.1) sc at' x := fun j bb b hj hrj hb hx => by
    obtain ⟨b1, b2, b3, c1, c2, c3, c4, c5, c6, c7, c8⟩ := H2 6 _ _ _ _ _ _ _ _ _ _ _ (Or.inr rfl) hb
    obtain ⟨s1, s2, s3⟩ := scB_l E s (k + 1) b.2.2.1
    obtain ⟨w1, w2, w3, w4⟩ := clO_w (qL β n) s k bb b.2.2.2
    have c1' : wC b.2.1 + 0 + b.2.2.2.length ≤ 3 * (rm β n j - 2 - rem β n b.1) + 0 := c1
    subst hx
    have hj3 : rm β n j + 3 ≤ rm β n k := by
      split at hrj <;> omega
    refine ⟨by dsimp only; omega, by dsimp only; omega, ?_, Nat.le_refl _, ?_, ?_, by dsimp only; omega, by dsimp only; omega, by dsimp only; rw [s1]; omega, ?_⟩
    · dsimp only
      rw [wC_app]
      by_cases hbb : bb = 1
      · rw [if_pos hbb] at hrj
        omega
      · have := w2 hbb
        omega
    · dsimp only; rw [fxM_app]; omega
    · dsimp only; rw [cnN_app, w4]; omega
    · dsimp only
      rw [s1]
      rcases c8 with c8 | c8
      · exact Or.inl c8
      · exact Or.inr (by omega)
  split at h
  · obtain ⟨⟨h33, h47⟩, h⟩ := if_inr h
    obtain ⟨i1, i2, i3, i4⟩ := rm_gt' (β := β) (n := n) (k := k + 2) (k' := k + 3) rfl (by omega)
    obtain ⟨j1, j2, j3, j4⟩ := rm_gt' (β := β) (n := n) (k := k + 3) (k' := k + 4) rfl (by omega)
    obtain ⟨l1, l2, l3, l4⟩ := rm_gt' (β := β) (n := n) (k := k + 4) (k' := k + 5) rfl (by omega)
    obtain ⟨b, hb, h⟩ := sb_inr h
    injection h with h
    exact fin (k + 5) 1 b (by omega) (by rw [if_pos rfl]; omega) hb h.symm
  · obtain ⟨b, hb, h⟩ := sb_inr h
    injection h with h
    exact fin (k + 2) 0 b (by omega) (by rw [if_neg (by decide)]; omega) hb h.symm
theorem psS_G (hH : psH β n R) {dp ind s : Nat} {lp : LpT} {tr ca ra k : Nat} {sc : SCs} {at' : List Nat} {x : PT} (hI : qI β n k = ind) (hs : s ≠ 0 → 1 ≤ ind) (h : psS (qK β n) (qL β n) (qI β n) E R dp ind s lp tr ca ra sc at' k = .inr x) : 3 ≤ qK β n k ∧ k < x.1 ∧ rem β n x.1 + ind + 2 ≤ rem β n k ∧ psE 0 ind (rem β n k - rem β n x.1) sc at' x := by
  unfold psS at h
  obtain ⟨y, hy, h⟩ := sb_inr h
  injection h with h
  subst h
  have key : 3 ≤ qK β n k ∧ k < y.1 ∧ rem β n y.1 + ind + 2 ≤ rem β n k ∧ psE 2 ind (rem β n k - rem β n y.1) sc at' y := by
    unfold psS0 at hy
    by_cases hk : qK β n k = 40
    · rw [if_pos hk] at hy
      obtain ⟨b1, b2, c1, c2, c3, c4, c5, c6, c7, c8⟩ := hH.2.2.2 _ _ _ _ _ _ _ _ _ _ _ (Or.inl hk) hy
      have hrm := rem_rm (β := β) (n := n) (k := k) (by omega)
      have hci := ci_f ind
      refine ⟨by omega, b1, by omega, by omega, c2, by omega, by omega, c5, by omega, c7, ?_⟩
      rcases c8 with c8 | c8
      · exact Or.inl c8
      · exact Or.inr (by omega)
    rw [if_neg hk] at hy; clear hk
    by_cases hk : qK β n k = 43
    · rw [if_pos hk] at hy
      exact ⟨by omega, psWh_G hH hk hI hy⟩
    rw [if_neg hk] at hy; clear hk
    by_cases hk : qK β n k = 44
    · rw [if_pos hk] at hy
      exact ⟨by omega, psFor_G hH hk hI hy⟩
    rw [if_neg hk] at hy; clear hk
    by_cases hk : qK β n k = 46
    · rw [if_pos hk] at hy
      exact ⟨by omega, psDf_G hH hk hI hy⟩
    rw [if_neg hk] at hy; clear hk
    by_cases hk : qK β n k = 47
    · rw [if_pos hk] at hy
      exact ⟨by omega, psCl_G hH hk hI hy⟩
    rw [if_neg hk] at hy; clear hk
    by_cases hk : qK β n k = 54
    · rw [if_pos hk] at hy
      exact ⟨by omega, psTry_G hH hk hI hy⟩
    rw [if_neg hk] at hy; clear hk
    subst hI
    by_cases hk : qK β n k = 52
    · rw [if_pos hk] at hy
      exact ⟨by omega, psDel_G hk hy⟩
    rw [if_neg hk] at hy; clear hk
    by_cases hk : qK β n k = 48
    · rw [if_pos hk] at hy
      exact ⟨by omega, psRet_G hk hy⟩
    rw [if_neg hk] at hy; clear hk
    by_cases hk : qK β n k = 56
    · rw [if_pos hk] at hy
      exact ⟨by omega, psRse_G hk hy⟩
    rw [if_neg hk] at hy; clear hk
    by_cases hk : qK β n k = 51
    · rw [if_pos hk] at hy
      obtain ⟨hK, rfl⟩ := ln_inr hy
      obtain ⟨g1, g2, g3, g4⟩ := rm_gt (β := β) (n := n) (k := k) (by omega)
      exact ⟨by omega, simp_G (by omega) (by omega) hK (by omega) 1 (by omega) (by show 0 + 2 ≤ _; omega) (by show 2 * 0 ≤ _; omega) (by show 2 * 0 ≤ _; omega) rfl (Nat.le_refl _) (by omega) (by omega)⟩
    rw [if_neg hk] at hy; clear hk
    by_cases hk : qK β n k = 49
    · rw [if_pos hk] at hy
      exact ⟨by omega, psLv_G (Or.inl hk) hy⟩
    rw [if_neg hk] at hy; clear hk
    by_cases hk : qK β n k = 50
    · rw [if_pos hk] at hy
      exact ⟨by omega, psLv_G (Or.inr hk) hy⟩
    rw [if_neg hk] at hy; clear hk
    by_cases hk : qK β n k = 53
    · rw [if_pos hk] at hy
      obtain ⟨hs0, hy⟩ := ifn_inr hy
      obtain ⟨q, sc1, b1, b2, b3, rfl, b5, b6, b7, b8⟩ := psGl_G _ _ _ _ hy
      obtain ⟨g1, g2, g3, g4⟩ := rm_gt (β := β) (n := n) (k := k) (by omega)
      exact ⟨by omega, simp_G (by omega) (by omega) b2 (by omega) (rm β n k - rm β n q) (by omega) (by show 0 + 2 ≤ _; omega) (by show 2 * 0 ≤ _; omega) (by show 2 * 0 ≤ _; omega) b5 b6 (by omega) (by omega)⟩
    rw [if_neg hk] at hy; clear hk
    exact psBind_G hs hy
  obtain ⟨k3, b1, b2, c1, c2, c3, c4, c5, c6, c7, c8⟩ := key
  refine ⟨k3, b1, b2, ?_, c2, ?_, ?_, c5, c6, c7, c8⟩
  · dsimp only; show 2 + wC _ + 0 + _ ≤ _; omega
  · dsimp only; show 2 * (0 + fxM _) ≤ _; omega
  · dsimp only; show 2 * (0 + cnN _) ≤ _; omega
theorem gv_w (E : Nat → Nat → Bool) (at' : List Nat) (k : Nat) : wC (gvO E at' k) + (gvA E at' k).length ≤ at'.length + 3 ∧ at'.length ≤ (gvA E at' k).length ∧ fxM (gvO E at' k) = 0 ∧ cnN (gvO E at' k) = 0 := by
  unfold gvO gvA
  cases gvI E at' k with
  | none =>
    dsimp only
    rw [List.length_append]
    refine ⟨?_, by omega, ?_, ?_⟩
    · split
      · show 2 + 0 + (at'.length + 1) ≤ _; omega
      · show 0 + (at'.length + 1) ≤ _; omega
    · split <;> rfl
    · split <;> rfl
  | some i =>
    dsimp only
    refine ⟨?_, Nat.le_refl _, ?_, ?_⟩
    · split
      · show 2 + 0 + at'.length ≤ _; omega
      · show 2 + (0 + 0) + at'.length ≤ _; omega
    · split <;> rfl
    · split <;> rfl
theorem psC_G (hH : psH β n R) {dp ind s : Nat} {ca ra k : Nat} {sc : SCs} {at' : List Nat} {x : PT} (hI : qI β n k = ind) (h : psC (qK β n) (qL β n) E R dp ind s ca ra sc at' k = .inr x) : 3 ≤ qK β n k ∧ k < x.1 ∧ rem β n x.1 + ind + 2 ≤ rem β n k ∧ psE 0 ind (rem β n k - rem β n x.1) sc at' x := by
  unfold psC at h
  obtain ⟨y, hy, h⟩ := sb_inr h
  injection h with h
  subst h
  have key : 3 ≤ qK β n k ∧ k < y.1 ∧ rem β n y.1 + ind + 2 ≤ rem β n k ∧ psE 2 ind (rem β n k - rem β n y.1) sc at' y := by
    unfold psC0 at hy
    split at hy
    · rename_i hk
      obtain ⟨b, hb, hy⟩ := sb_inr hy
      obtain ⟨b1, b2, ⟨c1, c2, c3, c4, c5, c6, c7, c8⟩, b4, b5, b6⟩ := psDef_G hH hk hI hb
      obtain ⟨v1, v2, v3, v4⟩ := gv_w E at' (k + 1)
      rw [b4] at c1
      injection hy with hy
      subst hy
      refine ⟨by omega, b1, b2, ?_, v2, ?_, ?_, c5, c6, c7, c8⟩
      · dsimp only; rw [wC_app]; omega
      · dsimp only; rw [fxM_app, v3]; omega
      · dsimp only; rw [cnN_app, v4]; omega
    subst hI
    split at hy
    · rename_i hk
      obtain ⟨hK, rfl⟩ := ln_inr hy
      obtain ⟨g1, g2, g3, g4⟩ := rm_gt (β := β) (n := n) (k := k) (by omega)
      exact ⟨by omega, simp_G (by omega) (by omega) hK (by omega) 1 (by omega) (by show 0 + 2 ≤ _; omega) (by show 2 * 0 ≤ _; omega) (by show 2 * 0 ≤ _; omega) rfl (Nat.le_refl _) (by omega) (by omega)⟩
    · obtain ⟨⟨h3, h19⟩, hy⟩ := if_inr hy
      obtain ⟨r, hr, hy⟩ := pb_inr hy
      obtain ⟨a1, a2, a3, a4, a5, a6, a7, a8, a9⟩ := ex_pm hr
      obtain ⟨hK, rfl⟩ := ln_inr hy
      obtain ⟨g1, g2, g3, g4⟩ := rm_gt (β := β) (n := n) (k := k) (by omega)
      obtain ⟨f1, f2, f3, f4⟩ := rm_gt' (β := β) (n := n) (k := k + 1) (k' := k + 2) rfl (by omega)
      obtain ⟨v1, v2, v3, v4⟩ := gv_w E at' k
      have h1 := rm_nl hK
      have h2 := rem_rm (β := β) (n := n) (k := k) (by omega)
      refine ⟨by omega, by dsimp only; omega, by dsimp only; omega, ?_, v2, ?_, ?_, Nat.le_refl _, by dsimp only; omega, Nat.le_refl _, Or.inl rfl⟩
      · dsimp only; rw [wC_app]; omega
      · dsimp only; rw [fxM_app, v3]; omega
      · dsimp only; rw [cnN_app, v4]; omega
  obtain ⟨k3, b1, b2, c1, c2, c3, c4, c5, c6, c7, c8⟩ := key
  refine ⟨k3, b1, b2, ?_, c2, ?_, ?_, c5, c6, c7, c8⟩
  · dsimp only; show 2 + wC _ + 0 + _ ≤ _; omega
  · dsimp only; show 2 * (0 + fxM _) ≤ _; omega
  · dsimp only; show 2 * (0 + cnN _) ≤ _; omega
theorem psQ_G (hH : psH β n R) {u t dp ind s : Nat} {lp : LpT} {tr ca ra k : Nat} {sc : SCs} {at' : List Nat} {x : PT} (hut : u = 0 ∧ t = 1 ∨ u = 5 ∧ t = 4) (hs : s ≠ 0 → 1 ≤ ind) (h : psQ (qK β n) (qL β n) (qI β n) R u t dp ind s lp tr ca ra sc at' k = .inr x) : k ≤ x.1 ∧ rem β n x.1 ≤ rem β n k ∧ psE 0 ind (rem β n k - rem β n x.1) sc at' x ∧ (qK β n k = 1 ∨ qI β n k ≠ ind ∨ k < x.1 ∧ rem β n x.1 + ind + 2 ≤ rem β n k) := by
  unfold psQ at h
  split at h
  · rename_i hc
    injection h with h
    subst h
    refine ⟨Nat.le_refl _, Nat.le_refl _, ⟨by dsimp only; show 0 + 0 + _ ≤ _; omega, Nat.le_refl _, Nat.zero_le _, Nat.zero_le _, Nat.le_refl _, by dsimp only; omega, Nat.le_refl _, Or.inl rfl⟩, ?_⟩
    omega
  · rename_i hc
    obtain ⟨hlt, h⟩ := ifn_inr h
    have hI : qI β n k = ind := by omega
    obtain ⟨a, ha, h⟩ := sb_inr h
    obtain ⟨b, hb, h⟩ := sb_inr h
    obtain ⟨k3, a1, a2, c1, c2, c3, c4, c5, c6, c7, c8⟩ := hH.1 u _ _ _ _ _ _ _ _ _ _ _ (by omega) hI hs ha
    obtain ⟨b1, b2, ⟨d1, d2, d3, d4, d5, d6, d7, d8⟩, b4⟩ := hH.2.1 t _ _ _ _ _ _ _ _ _ _ _ (by omega) hs hb
    have hci := ci_f ind
    injection h with h
    subst h
    refine ⟨by dsimp only; omega, by dsimp only; omega, ⟨?_, by dsimp only; omega, ?_, ?_, by dsimp only; omega, by dsimp only; omega, by dsimp only; omega, ?_⟩, Or.inr (Or.inr ⟨by dsimp only; omega, by dsimp only; omega⟩)⟩
    · dsimp only; rw [wC_app]; omega
    · dsimp only; rw [fxM_app]; omega
    · dsimp only; rw [cnN_app]; omega
    · dsimp only
      rcases c8 with c8 | c8
      · rcases d8 with d8 | d8
        · exact Or.inl (by omega)
        · exact Or.inr (by omega)
      · rcases d8 with d8 | d8
        · exact Or.inr (by omega)
        · exact Or.inr (by omega)
theorem psB_G (hH : psH β n R) {t dp ind s : Nat} {lp : LpT} {tr ca ra k : Nat} {sc : SCs} {at' : List Nat} {x : PT} (ht : t = 1 ∨ t = 4) (h : psB (qK β n) (qL β n) (qI β n) R t dp ind s lp tr ca ra sc at' k = .inr x) : qK β n k = 13 ∧ k + 3 ≤ x.1 ∧ rem β n x.1 + ind + 5 ≤ rm β n k ∧ psE 0 (ind + 1) (rm β n k - 2 - rem β n x.1) sc at' x := by
  unfold psB at h
  obtain ⟨h13, h⟩ := ifn_inr h
  obtain ⟨h2, h⟩ := ifn_inr h
  obtain ⟨hc, h⟩ := ifn_inr h
  have h13' : qK β n k = 13 := by omega
  obtain ⟨g1, g2, g3, g4⟩ := rm_gt (β := β) (n := n) (k := k) (by omega)
  have g5 := rm_nl (β := β) (n := n) (j := k + 1) (by omega)
  have e2 : k + 1 + 1 = k + 2 := rfl
  rw [e2] at g5
  obtain ⟨b1, b2, ⟨d1, d2, d3, d4, d5, d6, d7, d8⟩, b4⟩ := hH.2.1 t _ _ _ _ _ _ _ _ _ _ _ ht (fun _ => by omega) h
  have hci := ci_f ind
  have hci2 := ci_f (qI β n (k + 2))
  have b5 : k + 2 < x.1 ∧ rem β n x.1 + qI β n (k + 2) + 2 ≤ rem β n (k + 2) := by omega
  refine ⟨h13', by omega, by omega, by omega, d2, by omega, by omega, d5, by omega, d7, ?_⟩
  rcases d8 with d8 | d8
  · exact Or.inl d8
  · exact Or.inr (by omega)
end
/-- how much statements take -/
theorem ps_H (β : Nat → Nat) (n : Nat) (E : Nat → Nat → Bool) : ∀ F, psH β n (ps (qK β n) (qL β n) (qI β n) E F) := by
  intro F
  induction F with
  | zero => exact ⟨fun _ _ _ _ _ _ _ _ _ _ _ _ _ _ _ h => (by cases h), fun _ _ _ _ _ _ _ _ _ _ _ _ _ _ h => (by cases h), fun _ _ _ _ _ _ _ _ _ _ _ _ _ h => (by cases h), fun _ _ _ _ _ _ _ _ _ _ _ _ h => (by cases h)⟩
  | succ F ih =>
    refine ⟨fun t dp ind s lp tr ca ra sc at' k x ht hI hs h => ?_, fun t dp ind s lp tr ca ra sc at' k x ht hs h => ?_, fun t dp ind s lp tr ca ra sc at' k x ht h => ?_, fun dp ind s lp tr ca ra sc at' k x hk h => psI_G ih hk h⟩
    · rcases ht with rfl | rfl
      · exact psS_G ih hI hs h
      · exact psC_G ih hI h
    · rcases ht with rfl | rfl
      · exact psQ_G ih (Or.inl ⟨rfl, rfl⟩) hs h
      · exact psQ_G ih (Or.inr ⟨rfl, rfl⟩) hs h
    · rcases ht with rfl | rfl
      · exact psB_G ih (Or.inl rfl) h
      · exact psB_G ih (Or.inr rfl) h
