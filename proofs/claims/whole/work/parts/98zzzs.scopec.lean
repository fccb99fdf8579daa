/-! STATEMENTS, pure: the scopes that steps name are there, all rules; where a text ends -/
section
variable {β : Nat → Nat} {n : Nat} {R : RsT} {E : Nat → Nat → Bool}
theorem psCl_N (hR : psN R) {dp ind s ca ra k : Nat} {sc : SCs} {at' : List Nat} {x : PT} (hs : s < sc.1.length) (h : psCl (qK β n) (qL β n) E R dp ind s ca ra sc at' k = .inr x) : sc.1.length ≤ x.2.2.1.1.length ∧ pN x.2.2.1.1.length x.2.1 := by
  unfold psCl at h
  obtain ⟨_, h⟩ := if_inr h
  split at h
  · obtain ⟨_, h⟩ := if_inr h
    obtain ⟨b, hb, h⟩ := sb_inr h
    obtain ⟨b1, b2⟩ := hR _ _ _ _ _ _ _ _ _ _ _ _ hs hb
    injection h with h
    subst h
    have e := (scB_l E s (k + 1) b.2.2.1).1
    dsimp only
    rw [e]
    exact ⟨b1, pN_app.mpr ⟨b2, clO_N (Nat.lt_of_lt_of_le hs b1)⟩⟩
  · obtain ⟨b, hb, h⟩ := sb_inr h
    obtain ⟨b1, b2⟩ := hR _ _ _ _ _ _ _ _ _ _ _ _ hs hb
    injection h with h
    subst h
    have e := (scB_l E s (k + 1) b.2.2.1).1
    dsimp only
    rw [e]
    exact ⟨b1, pN_app.mpr ⟨b2, clO_N (Nat.lt_of_lt_of_le hs b1)⟩⟩
theorem psI_N (hR : psN R) {dp ind s : Nat} {lp : LpT} {tr ca ra k : Nat} {sc : SCs} {at' : List Nat} {x : PT} (hs : s < sc.1.length) (h : psI (qK β n) (qL β n) (qI β n) R dp ind s lp tr ca ra sc at' k = .inr x) : sc.1.length ≤ x.2.2.1.1.length ∧ pN x.2.2.1.1.length x.2.1 := by
  unfold psI at h
  obtain ⟨r, hr, h⟩ := pb_inr h
  obtain ⟨b, hb, h⟩ := sb_inr h
  obtain ⟨b1, b2⟩ := hR _ _ _ _ _ _ _ _ _ _ _ _ hs hb
  have hs1 := Nat.lt_of_lt_of_le hs b1
  split at h
  · obtain ⟨e, he, h⟩ := sb_inr h
    have he2 : b.2.2.1.1.length ≤ e.2.2.1.1.length ∧ pN e.2.2.1.1.length e.2.1 := by
      split at he
      · exact hR _ _ _ _ _ _ _ _ _ _ _ _ hs1 he
      · exact hR _ _ _ _ _ _ _ _ _ _ _ _ hs1 he
    obtain ⟨e1, e2⟩ := he2
    injection h with h
    subst h
    exact ⟨Nat.le_trans b1 e1, pN_app.mpr ⟨pN_exs hr (Nat.lt_of_lt_of_le hs1 e1), pN_cons.mpr ⟨no18 (by dsimp only; omega), pN_app.mpr ⟨pN_mono b2 e1, pN_cons.mpr ⟨no18 (by dsimp only; omega), e2⟩⟩⟩⟩⟩
  · injection h with h
    subst h
    exact ⟨b1, pN_app.mpr ⟨pN_exs hr hs1, pN_cons.mpr ⟨no18 (by dsimp only; omega), pN_app.mpr ⟨b2, pN_cons.mpr ⟨no18 (by dsimp only; omega), pN_nil _⟩⟩⟩⟩⟩
theorem ln_N {K : Nat → Nat} {l k : Nat} {os : List Op} {sc : SCs} {at' : List Nat} {x : PT} (h : ln K l k os sc at' = .inr x) (hp : pN sc.1.length os) : sc.1.length ≤ x.2.2.1.1.length ∧ pN x.2.2.1.1.length x.2.1 := by
  obtain ⟨_, rfl⟩ := ln_inr h
  exact ⟨Nat.le_refl _, hp⟩
theorem gvO_N {at' : List Nat} {k len : Nat} : pN len (gvO E at' k) := by
  unfold gvO
  split
  · split
    · exact pN_cons.mpr ⟨no18 (by dsimp only; omega), pN_nil _⟩
    · exact pN_cons.mpr ⟨no18 (by dsimp only; omega), pN_cons.mpr ⟨no18 (by dsimp only; omega), pN_nil _⟩⟩
  · split
    · exact pN_cons.mpr ⟨no18 (by dsimp only; omega), pN_nil _⟩
    · exact pN_nil _
theorem psLv_N {lp : LpT} {tr ca ra k : Nat} {brk : Bool} {sc : SCs} {at' : List Nat} {x : PT} (h : psLv (qK β n) (qL β n) lp tr ca ra brk sc at' k = .inr x) : sc.1.length ≤ x.2.2.1.1.length ∧ pN x.2.2.1.1.length x.2.1 := by
  unfold psLv at h
  split at h
  · cases h
  · refine ln_N h (pN_app.mpr ⟨?_, pN_cons.mpr ⟨?_, pN_nil _⟩⟩)
    · unfold untr
      split
      · exact pN_cons.mpr ⟨no18 (by dsimp only; omega), pN_nil _⟩
      · exact pN_nil _
    · split
      · exact no18 (by dsimp only; omega)
      · exact no18 (by dsimp only; omega)
theorem psS0_N (hR : psN R) {dp ind s : Nat} {lp : LpT} {tr ca ra k : Nat} {sc : SCs} {at' : List Nat} {x : PT} (hs : s < sc.1.length) (h : psS0 (qK β n) (qL β n) (qI β n) E R dp ind s lp tr ca ra sc at' k = .inr x) : sc.1.length ≤ x.2.2.1.1.length ∧ pN x.2.2.1.1.length x.2.1 := by
  unfold psS0 at h
  by_cases hk : qK β n k = 40
  · rw [if_pos hk] at h
    exact hR _ _ _ _ _ _ _ _ _ _ _ _ hs h
  rw [if_neg hk] at h; clear hk
  by_cases hk : qK β n k = 43
  · rw [if_pos hk] at h
    exact psWh_N hR hs h
  rw [if_neg hk] at h; clear hk
  by_cases hk : qK β n k = 44
  · rw [if_pos hk] at h
    exact psFor_N hR hs h
  rw [if_neg hk] at h; clear hk
  by_cases hk : qK β n k = 46
  · rw [if_pos hk] at h
    exact psDf_N hR hs h
  rw [if_neg hk] at h; clear hk
  by_cases hk : qK β n k = 47
  · rw [if_pos hk] at h
    exact psCl_N hR hs h
  rw [if_neg hk] at h; clear hk
  by_cases hk : qK β n k = 54
  · rw [if_pos hk] at h
    exact psTry_N hR hs h
  rw [if_neg hk] at h; clear hk
  by_cases hk : qK β n k = 52
  · rw [if_pos hk] at h
    unfold psDel at h
    obtain ⟨r, hr, h⟩ := pb_inr h
    obtain ⟨_, h⟩ := ifn_inr h
    have e := (scT_l E s r.2.1 (r.1 - 1) sc).1
    have := ln_N h (by rw [e]; exact pN_rtl (by omega) (by omega) (pN_exs hr hs))
    rw [e] at this
    exact this
  rw [if_neg hk] at h; clear hk
  by_cases hk : qK β n k = 48
  · rw [if_pos hk] at h
    unfold psRet at h
    obtain ⟨_, h⟩ := ifn_inr h
    split at h
    · injection h with h
      subst h
      exact ⟨Nat.le_refl _, pN_cons.mpr ⟨no18 (by dsimp only; omega), pN_cons.mpr ⟨no18 (by dsimp only; omega), pN_nil _⟩⟩⟩
    · obtain ⟨r, hr, h⟩ := pb_inr h
      exact ln_N h (pN_app.mpr ⟨pN_exs hr hs, pN_cons.mpr ⟨no18 (by dsimp only; omega), pN_nil _⟩⟩)
  rw [if_neg hk] at h; clear hk
  by_cases hk : qK β n k = 56
  · rw [if_pos hk] at h
    unfold psRse at h
    obtain ⟨r, hr, h⟩ := pb_inr h
    exact ln_N h (pN_app.mpr ⟨pN_exs hr hs, pN_cons.mpr ⟨no18 (by dsimp only; omega), pN_nil _⟩⟩)
  rw [if_neg hk] at h; clear hk
  by_cases hk : qK β n k = 51
  · rw [if_pos hk] at h
    exact ln_N h (pN_nil _)
  rw [if_neg hk] at h; clear hk
  by_cases hk : qK β n k = 49
  · rw [if_pos hk] at h
    exact psLv_N h
  rw [if_neg hk] at h; clear hk
  by_cases hk : qK β n k = 50
  · rw [if_pos hk] at h
    exact psLv_N h
  rw [if_neg hk] at h; clear hk
  by_cases hk : qK β n k = 53
  · rw [if_pos hk] at h
    obtain ⟨_, h⟩ := ifn_inr h
    obtain ⟨q, sc1, _, _, _, rfl, e, _⟩ := psGl_G _ _ _ _ h
    dsimp only
    rw [e]
    exact ⟨Nat.le_refl _, pN_nil _⟩
  rw [if_neg hk] at h; clear hk
  exact psBind_N hs h
theorem psC0_N (hR : psN R) {dp ind s ca ra k : Nat} {sc : SCs} {at' : List Nat} {x : PT} (hs : s < sc.1.length) (h : psC0 (qK β n) (qL β n) E R dp ind s ca ra sc at' k = .inr x) : sc.1.length ≤ x.2.2.1.1.length ∧ pN x.2.2.1.1.length x.2.1 := by
  unfold psC0 at h
  split at h
  · obtain ⟨b, hb, h⟩ := sb_inr h
    obtain ⟨b1, b2⟩ := psDef_N hR hb
    injection h with h
    subst h
    exact ⟨b1, pN_app.mpr ⟨b2, gvO_N⟩⟩
  split at h
  · exact ln_N h (pN_nil _)
  · obtain ⟨_, h⟩ := if_inr h
    obtain ⟨r, hr, h⟩ := pb_inr h
    exact ln_N h (pN_app.mpr ⟨pN_exs hr hs, gvO_N⟩)
theorem psQ_N (hR : psN R) {u t dp ind s : Nat} {lp : LpT} {tr ca ra k : Nat} {sc : SCs} {at' : List Nat} {x : PT} (hs : s < sc.1.length) (h : psQ (qK β n) (qL β n) (qI β n) R u t dp ind s lp tr ca ra sc at' k = .inr x) : sc.1.length ≤ x.2.2.1.1.length ∧ pN x.2.2.1.1.length x.2.1 := by
  unfold psQ at h
  split at h
  · injection h with h
    subst h
    exact ⟨Nat.le_refl _, pN_nil _⟩
  · obtain ⟨_, h⟩ := ifn_inr h
    obtain ⟨b, hb, h⟩ := sb_inr h
    obtain ⟨b1, b2⟩ := hR _ _ _ _ _ _ _ _ _ _ _ _ hs hb
    obtain ⟨e, he, h⟩ := sb_inr h
    obtain ⟨e1, e2⟩ := hR _ _ _ _ _ _ _ _ _ _ _ _ (Nat.lt_of_lt_of_le hs b1) he
    injection h with h
    subst h
    exact ⟨Nat.le_trans b1 e1, pN_app.mpr ⟨pN_mono b2 e1, e2⟩⟩
theorem psB_N (hR : psN R) {t dp ind s : Nat} {lp : LpT} {tr ca ra k : Nat} {sc : SCs} {at' : List Nat} {x : PT} (hs : s < sc.1.length) (h : psB (qK β n) (qL β n) (qI β n) R t dp ind s lp tr ca ra sc at' k = .inr x) : sc.1.length ≤ x.2.2.1.1.length ∧ pN x.2.2.1.1.length x.2.1 := by
  unfold psB at h
  obtain ⟨_, h⟩ := ifn_inr h
  obtain ⟨_, h⟩ := ifn_inr h
  obtain ⟨_, h⟩ := ifn_inr h
  exact hR _ _ _ _ _ _ _ _ _ _ _ _ hs h
theorem ps_N : ∀ F, psN (ps (qK β n) (qL β n) (qI β n) E F) := by
  intro F
  induction F with
  | zero => exact fun _ _ _ _ _ _ _ _ _ _ _ _ _ h => (by cases h)
  | succ F ih =>
    intro t dp ind s lp tr ca ra sc at' k x hs h
    have h : psR (qK β n) (qL β n) (qI β n) E (ps (qK β n) (qL β n) (qI β n) E F) t dp ind s lp tr ca ra sc at' k = .inr x := h
    unfold psR at h
    split at h
    · unfold psS at h
      obtain ⟨b, hb, h⟩ := sb_inr h
      obtain ⟨b1, b2⟩ := psS0_N ih hs hb
      injection h with h
      subst h
      exact ⟨b1, pN_cons.mpr ⟨no18 (by dsimp only; omega), b2⟩⟩
    · exact psQ_N ih hs h
    · exact psB_N ih hs h
    · exact psI_N ih hs h
    · exact psQ_N ih hs h
    · unfold psC at h
      obtain ⟨b, hb, h⟩ := sb_inr h
      obtain ⟨b1, b2⟩ := psC0_N ih hs hb
      injection h with h
      subst h
      exact ⟨b1, pN_cons.mpr ⟨no18 (by dsimp only; omega), b2⟩⟩
    · exact psB_N ih hs h
/-- a text's statements end at its end -/
theorem ps_end {dp s : Nat} {lp : LpT} : ∀ (F tr ca ra : Nat) (sc : SCs) (at' : List Nat) (k : Nat) (x : PT), ps (qK β n) (qL β n) (qI β n) E F 1 dp 0 s lp tr ca ra sc at' k = .inr x → qK β n x.1 = 1 := by
  intro F
  induction F with
  | zero => intro tr ca ra sc at' k x h; cases h
  | succ F ih =>
    intro tr ca ra sc at' k x h
    have h : psQ (qK β n) (qL β n) (qI β n) (ps (qK β n) (qL β n) (qI β n) E F) 0 1 dp 0 s lp tr ca ra sc at' k = .inr x := h
    unfold psQ at h
    split at h
    · rename_i hc
      injection h with h
      subst h
      rcases hc with hc | hc
      · exact hc
      · omega
    · obtain ⟨_, h⟩ := ifn_inr h
      obtain ⟨b, hb, h⟩ := sb_inr h
      obtain ⟨e, he, h⟩ := sb_inr h
      injection h with h
      subst h
      have e9 := ih _ _ _ _ _ _ _ he
      exact e9
end
