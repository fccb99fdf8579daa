/-! STATEMENTS, pure: the scopes that steps name are there -/
def pN (len : Nat) (os : List Op) : Prop := ∀ o, o ∈ os → fxO o = 1 → o.2.1.getD 1 0 < len
theorem pN_nil (len : Nat) : pN len [] := fun o ho => by cases ho
theorem pN_cons {len : Nat} {o : Op} {r : List Op} : pN len (o :: r) ↔ (fxO o = 1 → o.2.1.getD 1 0 < len) ∧ pN len r :=
  ⟨fun h => ⟨h o List.mem_cons_self, fun o' ho => h o' (List.mem_cons_of_mem _ ho)⟩, fun h o' ho => by
    rcases List.mem_cons.mp ho with rfl | h1
    · exact h.1
    · exact h.2 o' h1⟩
theorem pN_app {len : Nat} {a b : List Op} : pN len (a ++ b) ↔ pN len a ∧ pN len b :=
  ⟨fun h => ⟨fun o ho => h o (List.mem_append_left _ ho), fun o ho => h o (List.mem_append_right _ ho)⟩, fun h o ho => by
    rcases List.mem_append.mp ho with h1 | h1
    · exact h.1 o h1
    · exact h.2 o h1⟩
theorem pN_mono {len len1 : Nat} {os : List Op} (h : pN len os) (hl : len ≤ len1) : pN len1 os := fun o ho h1 => Nat.lt_of_lt_of_le (h o ho h1) hl
theorem fxO_no {o : Op} (h : o.1 < 18 ∨ 21 < o.1) : fxO o = 1 → o.2.1.getD 1 0 < 0 := fun h1 => by
  unfold fxO at h1
  rw [if_neg (by omega)] at h1
  cases h1
theorem pN_exs {β : Nat → Nat} {n s k len : Nat} {r : Nat × Nat × List Op} (h : exs (qK β n) s k = some r) (hs : s < len) : pN len r.2.2 := by
  obtain ⟨r0, h1, rfl⟩ := exs_px h
  intro o ho hf
  obtain ⟨o0, ho0, rfl⟩ := List.mem_map.mp ho
  by_cases hr : 18 ≤ o0.1 ∧ o0.1 ≤ 21
  · rw [tgs_y hr]
    exact hs
  · have : (tgsc s o0).1 = o0.1 := tgs_1 s o0
    exact absurd (fxO_no (o := tgsc s o0) (by omega) hf) (Nat.not_lt_zero _)
theorem pN_rtl {a b c len : Nat} {os : List Op} (hb : 21 < b) (hc : 21 < c) (h : pN len os) : pN len (rtl a b c os) := by
  unfold rtl
  rw [pN_app]
  refine ⟨fun o ho => h o (List.dropLast_subset _ ho), ?_⟩
  cases hl : os.getLast? with
  | none => exact pN_nil _
  | some o =>
    have hm := List.mem_of_getLast? hl
    rw [pN_cons]
    refine ⟨fun hf => ?_, pN_nil _⟩
    show o.2.1.getD 1 0 < len
    by_cases h18 : o.1 = 18
    · refine h o hm ?_
      rw [if_pos h18] at hf
      unfold fxO at hf ⊢
      split at hf
      · rename_i hx
        exact if_pos ⟨by omega, by omega, hx.2.2⟩
      · cases hf
    · rw [if_neg h18] at hf
      exact absurd (fxO_no (by dsimp only; split <;> omega) hf) (Nat.not_lt_zero _)
theorem pN_rsv {K : Nat → Nat} {ce re len : Nat} : ∀ (os : List Op) (c r : Nat), pN len os → pN len (rsv K ce re c r os) := by
  intro os
  induction os with
  | nil => intro c r _; exact pN_nil _
  | cons o l ih =>
    intro c r h
    rw [pN_cons] at h
    show pN len ((if o.1 = 60 then _ else o) :: _)
    rw [pN_cons]
    refine ⟨?_, ih _ _ h.2⟩
    by_cases h6 : o.1 = 60
    · rw [if_pos h6]; exact fun hf => absurd (fxO_no (Or.inl (by show 4 < 18; omega)) hf) (Nat.not_lt_zero _)
    · rw [if_neg h6]; exact h.1
def psN (R : RsT) : Prop := ∀ t dp ind s lp tr ca ra sc at' k x, s < sc.1.length → R t dp ind s lp tr ca ra sc at' k = .inr x → sc.1.length ≤ x.2.2.1.1.length ∧ pN x.2.2.1.1.length x.2.1
section
variable {β : Nat → Nat} {n : Nat} {R : RsT} {E : Nat → Nat → Bool}
theorem no18 {o : Op} {len : Nat} (h : o.1 < 18 ∨ 21 < o.1) : fxO o = 1 → o.2.1.getD 1 0 < len := fun hf => absurd (fxO_no h hf) (Nat.not_lt_zero _)
theorem psBind_N {s k : Nat} {sc : SCs} {at' : List Nat} {x : PT} (hs : s < sc.1.length) (h : psBind (qK β n) (qL β n) E s sc at' k = .inr x) : sc.1.length ≤ x.2.2.1.1.length ∧ pN x.2.2.1.1.length x.2.1 := by
  unfold psBind at h
  obtain ⟨r, hr, h⟩ := pb_inr h
  have e := (scT_l E s r.2.1 (r.1 - 1) sc).1
  split at h
  · obtain ⟨_, h⟩ := ifn_inr h
    obtain ⟨q, hq, h⟩ := pb_inr h
    obtain ⟨_, rfl⟩ := ln_inr h
    dsimp only
    rw [e]
    exact ⟨Nat.le_refl _, pN_app.mpr ⟨pN_exs hq hs, pN_rtl (by omega) (by omega) (pN_exs hr hs)⟩⟩
  · split at h
    · obtain ⟨_, rfl⟩ := ln_inr h
      exact ⟨Nat.le_refl _, pN_app.mpr ⟨pN_exs hr hs, pN_cons.mpr ⟨no18 (by dsimp only; omega), pN_nil _⟩⟩⟩
    · rename_i hch
      obtain ⟨_, h⟩ := ifn_inr h
      obtain ⟨q, hq, h⟩ := pb_inr h
      obtain ⟨_, rfl⟩ := ln_inr h
      dsimp only
      rw [e]
      have hcl := chO_le (qK β n r.1)
      refine ⟨Nat.le_refl _, pN_app.mpr ⟨pN_rtl (by omega) (by omega) (pN_exs hr hs), pN_app.mpr ⟨pN_exs hq hs, pN_cons.mpr ⟨no18 (by dsimp only; omega), pN_cons.mpr ⟨?_, pN_nil _⟩⟩⟩⟩⟩
      split
      · exact fun _ => hs
      · split
        · exact no18 (by dsimp only; omega)
        · exact no18 (by dsimp only; omega)
theorem psWh_N (hR : psN R) {dp ind s tr ca ra k : Nat} {sc : SCs} {at' : List Nat} {x : PT} (hs : s < sc.1.length) (h : psWh (qK β n) (qL β n) R dp ind s tr ca ra sc at' k = .inr x) : sc.1.length ≤ x.2.2.1.1.length ∧ pN x.2.2.1.1.length x.2.1 := by
  unfold psWh at h
  obtain ⟨r, hr, h⟩ := pb_inr h
  obtain ⟨b, hb, h⟩ := sb_inr h
  obtain ⟨b1, b2⟩ := hR _ _ _ _ _ _ _ _ _ _ _ _ hs hb
  injection h with h
  subst h
  exact ⟨b1, pN_cons.mpr ⟨no18 (by dsimp only; omega), pN_cons.mpr ⟨no18 (by dsimp only; omega), pN_app.mpr ⟨pN_exs hr (Nat.lt_of_lt_of_le hs b1), pN_cons.mpr ⟨no18 (by dsimp only; omega), pN_app.mpr ⟨pN_rsv _ _ _ b2, pN_cons.mpr ⟨no18 (by dsimp only; omega), pN_nil _⟩⟩⟩⟩⟩⟩⟩
theorem psFor_N (hR : psN R) {dp ind s tr ca ra k : Nat} {sc : SCs} {at' : List Nat} {x : PT} (hs : s < sc.1.length) (h : psFor (qK β n) (qL β n) E R dp ind s tr ca ra sc at' k = .inr x) : sc.1.length ≤ x.2.2.1.1.length ∧ pN x.2.2.1.1.length x.2.1 := by
  unfold psFor at h
  obtain ⟨_, h⟩ := if_inr h
  obtain ⟨r, hr, h⟩ := pb_inr h
  obtain ⟨b, hb, h⟩ := sb_inr h
  have e := (scB_l E s (k + 1) sc).1
  obtain ⟨b1, b2⟩ := hR _ _ _ _ _ _ _ _ _ _ _ _ (by rw [e]; exact hs) hb
  rw [e] at b1
  injection h with h
  subst h
  have hs2 := Nat.lt_of_lt_of_le hs b1
  exact ⟨b1, pN_app.mpr ⟨pN_exs hr hs2, pN_cons.mpr ⟨no18 (by dsimp only; omega), pN_cons.mpr ⟨no18 (by dsimp only; omega), pN_cons.mpr ⟨no18 (by dsimp only; omega), pN_cons.mpr ⟨no18 (by dsimp only; omega), pN_cons.mpr ⟨fun _ => hs2, pN_app.mpr ⟨pN_rsv _ _ _ b2, pN_cons.mpr ⟨no18 (by dsimp only; omega), pN_cons.mpr ⟨no18 (by dsimp only; omega), pN_nil _⟩⟩⟩⟩⟩⟩⟩⟩⟩⟩
theorem psTry_N (hR : psN R) {dp ind s : Nat} {lp : LpT} {tr ca ra k : Nat} {sc : SCs} {at' : List Nat} {x : PT} (hs : s < sc.1.length) (h : psTry (qK β n) (qL β n) (qI β n) E R dp ind s lp tr ca ra sc at' k = .inr x) : sc.1.length ≤ x.2.2.1.1.length ∧ pN x.2.2.1.1.length x.2.1 := by
  unfold psTry at h
  obtain ⟨b, hb, h⟩ := sb_inr h
  obtain ⟨_, h⟩ := if_inr h
  obtain ⟨e, he, h⟩ := sb_inr h
  obtain ⟨b1, b2⟩ := hR _ _ _ _ _ _ _ _ _ _ _ _ hs hb
  have ex := (exC_l (E := E) (qK β n) s (b.1 + 1) b.2.2.1).1
  obtain ⟨e1, e2⟩ := hR _ _ _ _ _ _ _ _ _ _ _ _ (by rw [ex]; exact Nat.lt_of_lt_of_le hs b1) he
  rw [ex] at e1
  injection h with h
  subst h
  have h1 := Nat.le_trans b1 e1
  refine ⟨h1, pN_cons.mpr ⟨no18 (by dsimp only; omega), pN_app.mpr ⟨pN_mono b2 e1, pN_cons.mpr ⟨no18 (by dsimp only; omega), pN_cons.mpr ⟨no18 (by dsimp only; omega), pN_app.mpr ⟨?_, e2⟩⟩⟩⟩⟩⟩
  unfold exO
  split
  · exact pN_cons.mpr ⟨no18 (by dsimp only; omega), pN_cons.mpr ⟨fun _ => Nat.lt_of_lt_of_le hs h1, pN_nil _⟩⟩
  · exact pN_cons.mpr ⟨no18 (by dsimp only; omega), pN_cons.mpr ⟨no18 (by dsimp only; omega), pN_nil _⟩⟩
theorem psDef_N (hR : psN R) {dp ind s ca ra k : Nat} {sc : SCs} {at' : List Nat} {x : PT} (h : psDef (qK β n) (qL β n) E R dp ind s ca ra sc at' k = .inr x) : sc.1.length ≤ x.2.2.1.1.length ∧ pN x.2.2.1.1.length x.2.1 := by
  unfold psDef at h
  obtain ⟨_, h⟩ := if_inr h
  cases hp : psPs (qK β n) E sc.1.length (sc.1 ++ [(s, ca + 2, ra + 2, k + 1)], sc.2) (k + 3) with
  | none => rw [hp] at h; cases h
  | some y =>
    rw [hp] at h
    have ep := (psPs_G hp).2.2.2.2.1
    obtain ⟨b, hb, h⟩ := sb_inr h
    have el : y.2.1.1.length = sc.1.length + 1 := by rw [ep]; simp
    obtain ⟨b1, b2⟩ := hR _ _ _ _ _ _ _ _ _ _ _ _ (by rw [el]; omega) hb
    injection h with h
    subst h
    exact ⟨by dsimp only; omega, pN_cons.mpr ⟨no18 (by dsimp only; omega), pN_app.mpr ⟨b2, pN_cons.mpr ⟨no18 (by dsimp only; omega), pN_cons.mpr ⟨no18 (by dsimp only; omega), pN_cons.mpr ⟨no18 (by dsimp only; omega), pN_nil _⟩⟩⟩⟩⟩⟩
theorem psDf_N (hR : psN R) {dp ind s ca ra k : Nat} {sc : SCs} {at' : List Nat} {x : PT} (hs : s < sc.1.length) (h : psDf (qK β n) (qL β n) E R dp ind s ca ra sc at' k = .inr x) : sc.1.length ≤ x.2.2.1.1.length ∧ pN x.2.2.1.1.length x.2.1 := by
  unfold psDf at h
  obtain ⟨b, hb, h⟩ := sb_inr h
  obtain ⟨b1, b2⟩ := psDef_N hR hb
  injection h with h
  subst h
  have e := (scB_l E s (k + 1) b.2.2.1).1
  dsimp only
  rw [e]
  exact ⟨b1, pN_app.mpr ⟨b2, pN_cons.mpr ⟨fun _ => Nat.lt_of_lt_of_le hs b1, pN_nil _⟩⟩⟩
theorem clO_N {L : Nat → Nat} {s k b len : Nat} {at' : List Nat} (hs : s < len) : pN len (clO L s k b at') := by
  unfold clO
  refine pN_cons.mpr ⟨no18 (by dsimp only; omega), pN_app.mpr ⟨?_, pN_cons.mpr ⟨no18 (by dsimp only; omega), pN_cons.mpr ⟨fun _ => hs, pN_nil _⟩⟩⟩⟩
  split
  · exact pN_cons.mpr ⟨fun _ => hs, pN_nil _⟩
  · exact pN_nil _
end
