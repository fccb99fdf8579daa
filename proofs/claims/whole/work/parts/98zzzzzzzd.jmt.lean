/-! JUMPS LAND ON STEPS (pure): every text -/
def psJ (K : Nat → Nat) (R : RsT) : Prop := ∀ t dp ind s lp tr ca ra sc at' k x, R t dp ind s lp tr ca ra sc at' k = .inr x → jO K lp ca ra x.2.1
section
variable {K L I : Nat → Nat} {E : Nat → Nat → Bool} {R : RsT} {dp ind s k tr ca ra : Nat} {lp : LpT} {sc : SCs} {at' : List Nat} {x : PT}
theorem jO_w {os : List Op} (h : jO K none ca ra os) : jO K lp ca ra os := jA_T h (fun p q g => g.elim Or.inl (fun g => g.elim))
theorem ln_J {l : Nat} {os : List Op} {sc1 : SCs} (h : ln K l k os sc1 at' = .inr x) (hj : jO K lp ca ra os) : jO K lp ca ra x.2.1 := by
  obtain ⟨_, v2⟩ := ln_inr h
  rw [v2]
  exact hj
theorem psBind_J (h : psBind K L E s sc at' k = .inr x) : jO K lp ca ra x.2.1 := by
  unfold psBind at h
  obtain ⟨r, hr, h⟩ := pb_inr h
  by_cases h19 : K r.1 = 19
  · rw [if_pos h19] at h
    obtain ⟨hg, h⟩ := ifn_inr h
    obtain ⟨q, hq, h⟩ := pb_inr h
    exact ln_J h (jF_O (jF_app (exs_jF hq) (rtl_jF (exs_tj hr hg) (by unfold isJ; omega) (by unfold isJ; omega) (by unfold isJ; omega))))
  · rw [if_neg h19] at h
    by_cases hc : chO (K r.1) = 0
    · rw [if_pos hc] at h
      exact ln_J h (jF_O (jF_app (exs_jF hr) (jF_n (by unfold isJ; dsimp only; omega))))
    · rw [if_neg hc] at h
      obtain ⟨hg, h⟩ := ifn_inr h
      obtain ⟨q, hq, h⟩ := pb_inr h
      have h2 : 25 ≤ chO (K r.1) := by
        unfold chO at hc ⊢
        split
        · omega
        · split
          · omega
          · split
            · omega
            · rename_i a1 a2 a3
              rw [if_neg a1, if_neg a2, if_neg a3] at hc
              exact absurd rfl hc
      refine ln_J h (jF_O (jF_app (rtl_jF (exs_tj hr hg) (by unfold isJ; omega) (by unfold isJ; omega) (by unfold isJ; omega)) (jF_app (exs_jF hq) (jF_app (a := [(chO (K r.1), [K r.1], 0, 0)]) (jF_n (by unfold isJ; dsimp only; omega)) (jF_n ?_)))))
      split
      · unfold isJ; dsimp only; omega
      · split
        · unfold isJ; dsimp only; omega
        · unfold isJ; dsimp only; omega
theorem psGl_J {l : Nat} : ∀ (m : Nat) (sc : SCs) (k : Nat) (x : PT), psGl K E l s at' m sc k = .inr x → x.2.1 = [] := by
  intro m
  induction m with
  | zero => intro sc k x h; cases h
  | succ m ih =>
    intro sc k x h
    unfold psGl at h
    obtain ⟨h3, h⟩ := if_inr h
    cases hg : scG E s k sc with
    | none => rw [hg] at h; cases h
    | some sc1 =>
      rw [hg] at h
      have h' : (if K (k + 1) = 12 then psGl K E l s at' m sc1 (k + 2) else ln K l (k + 1) [] sc1 at') = .inr x := h
      by_cases h12 : K (k + 1) = 12
      · rw [if_pos h12] at h'
        exact ih sc1 _ x h'
      · rw [if_neg h12] at h'
        obtain ⟨_, v2⟩ := ln_inr h'
        rw [v2]
theorem psDef_J (hR : psJ K R) (h : psDef K L E R dp ind s ca ra sc at' k = .inr x) : jO K lp ca ra x.2.1 := by
  unfold psDef at h
  obtain ⟨_, h⟩ := if_inr h
  cases hy : psPs K E sc.1.length (sc.1 ++ [(s, ca + 2, ra + 2, k + 1)], sc.2) (k + 3) with
  | none => rw [hy] at h; cases h
  | some y =>
    rw [hy] at h
    obtain ⟨b, hb, h⟩ := sb_inr h
    injection h with h
    subst h
    exact def_J (hR _ _ _ _ _ _ _ _ _ _ _ _ hb)
theorem gvO_J {a : List Nat} {j : Nat} : ∀ o, o ∈ gvO E a j → ¬ isJ o.1 := by
  intro o ho
  unfold gvO at ho
  split at ho
  · split at ho
    · rw [List.mem_singleton] at ho
      rw [ho]; unfold isJ; dsimp only; omega
    · rcases List.mem_cons.mp ho with h | h
      · rw [h]; unfold isJ; dsimp only; omega
      · rw [List.mem_singleton] at h
        rw [h]; unfold isJ; dsimp only; omega
  · split at ho
    · rw [List.mem_singleton] at ho
      rw [ho]; unfold isJ; dsimp only; omega
    · cases ho
theorem clO_J {b : Nat} {a : List Nat} : ∀ o, o ∈ clO L s k b a → ¬ isJ o.1 := by
  intro o ho
  unfold clO at ho
  rcases List.mem_cons.mp ho with h | h
  · rw [h]; unfold isJ; dsimp only; omega
  · rcases List.mem_append.mp h with h | h
    · split at h
      · rw [List.mem_singleton] at h
        rw [h]; unfold isJ; dsimp only; omega
      · cases h
    · rcases List.mem_cons.mp h with h | h
      · rw [h]; unfold isJ; dsimp only; omega
      · rw [List.mem_singleton] at h
        rw [h]; unfold isJ; dsimp only; omega
theorem exO_J {j : Nat} : ∀ o, o ∈ exO K s j → ¬ isJ o.1 := by
  intro o ho
  unfold exO at ho
  split at ho
  · rcases List.mem_cons.mp ho with h | h
    · rw [h]; unfold isJ; dsimp only; omega
    · rw [List.mem_singleton] at h
      rw [h]; unfold isJ; dsimp only; omega
  · rcases List.mem_cons.mp ho with h | h
    · rw [h]; unfold isJ; dsimp only; omega
    · rw [List.mem_singleton] at h
      rw [h]; unfold isJ; dsimp only; omega
theorem psLv_J {b : Bool} (h : psLv K L lp tr ca ra b sc at' k = .inr x) : jO K lp ca ra x.2.1 := by
  unfold psLv at h
  cases lp with
  | none => cases h
  | some w =>
    refine ln_J h (jO_app (jO_no (fun o ho => ?_)) ?_)
    · unfold untr at ho
      split at ho
      · rw [List.mem_singleton] at ho
        rw [ho]; unfold isJ; dsimp only; omega
      · cases ho
    · cases b with
      | true => exact jO_n (by
          show ¬ isJ 60
          unfold isJ; omega)
      | false =>
        refine jA_1 (Or.inr ⟨?_, ?_⟩)
        · show ((ca + wC (untr tr w.2.2) : Nat) : Int) + ((w.1 : Int) - (ca + wC (untr tr w.2.2) : Nat)) = (w.1 : Nat)
          omega
        · show ((ra + wR K (untr tr w.2.2) : Nat) : Int) + 1 + ((w.2.1 : Int) - ((ra + wR K (untr tr w.2.2) : Nat) + 1)) = (w.2.1 : Nat)
          omega
theorem psS0_J (hR : psJ K R) (h : psS0 K L I E R dp ind s lp tr ca ra sc at' k = .inr x) : jO K lp ca ra x.2.1 := by
  unfold psS0 at h
  by_cases e : K k = 40
  · rw [if_pos e] at h
    exact hR _ _ _ _ _ _ _ _ _ _ _ _ h
  rw [if_neg e] at h; clear e
  by_cases e : K k = 43
  · rw [if_pos e] at h
    unfold psWh at h
    obtain ⟨r, hr, h⟩ := pb_inr h
    obtain ⟨b, hb, h⟩ := sb_inr h
    injection h with h
    subst h
    exact wh_J (exs_jF hr) (hR _ _ _ _ _ _ _ _ _ _ _ _ hb)
  rw [if_neg e] at h; clear e
  by_cases e : K k = 44
  · rw [if_pos e] at h
    unfold psFor at h
    obtain ⟨_, h⟩ := if_inr h
    obtain ⟨r, hr, h⟩ := pb_inr h
    obtain ⟨b, hb, h⟩ := sb_inr h
    injection h with h
    subst h
    exact for_J rfl (exs_jF hr) (hR _ _ _ _ _ _ _ _ _ _ _ _ hb)
  rw [if_neg e] at h; clear e
  by_cases e : K k = 46
  · rw [if_pos e] at h
    unfold psDf at h
    obtain ⟨b, hb, h⟩ := sb_inr h
    injection h with h
    subst h
    have g := psDef_J (lp := lp) (x := b) hR hb
    exact jO_app g (jO_n (by unfold isJ; dsimp only; omega))
  rw [if_neg e] at h; clear e
  by_cases e : K k = 47
  · rw [if_pos e] at h
    unfold psCl at h
    obtain ⟨_, h⟩ := if_inr h
    by_cases h6 : K (k + 2) = 6
    · rw [if_pos h6] at h
      obtain ⟨_, h⟩ := if_inr h
      obtain ⟨b, hb, h⟩ := sb_inr h
      injection h with h
      subst h
      exact jO_app (jO_w (hR _ _ _ _ _ _ _ _ _ _ _ _ hb)) (jO_no clO_J)
    · rw [if_neg h6] at h
      obtain ⟨b, hb, h⟩ := sb_inr h
      injection h with h
      subst h
      exact jO_app (jO_w (hR _ _ _ _ _ _ _ _ _ _ _ _ hb)) (jO_no clO_J)
  rw [if_neg e] at h; clear e
  by_cases e : K k = 54
  · rw [if_pos e] at h
    unfold psTry at h
    obtain ⟨b, hb, h⟩ := sb_inr h
    obtain ⟨_, h⟩ := if_inr h
    obtain ⟨w, hw, h⟩ := sb_inr h
    injection h with h
    subst h
    exact try_J exO_J (hR _ _ _ _ _ _ _ _ _ _ _ _ hb) (hR _ _ _ _ _ _ _ _ _ _ _ _ hw)
  rw [if_neg e] at h; clear e
  by_cases e : K k = 52
  · rw [if_pos e] at h
    unfold psDel at h
    obtain ⟨r, hr, h⟩ := pb_inr h
    obtain ⟨hg, h⟩ := ifn_inr h
    exact ln_J h (jF_O (rtl_jF (exs_tj hr hg) (by unfold isJ; omega) (by unfold isJ; omega) (by unfold isJ; omega)))
  rw [if_neg e] at h; clear e
  by_cases e : K k = 48
  · rw [if_pos e] at h
    unfold psRet at h
    obtain ⟨_, h⟩ := ifn_inr h
    split at h
    · injection h with h
      subst h
      exact jO_c (by unfold isJ; dsimp only; omega) (jO_n (by unfold isJ; dsimp only; omega))
    · obtain ⟨r, hr, h⟩ := pb_inr h
      exact ln_J h (jF_O (jF_app (exs_jF hr) (jF_n (by unfold isJ; dsimp only; omega))))
  rw [if_neg e] at h; clear e
  by_cases e : K k = 56
  · rw [if_pos e] at h
    unfold psRse at h
    obtain ⟨r, hr, h⟩ := pb_inr h
    exact ln_J h (jF_O (jF_app (exs_jF hr) (jF_n (by unfold isJ; dsimp only; omega))))
  rw [if_neg e] at h; clear e
  by_cases e : K k = 51
  · rw [if_pos e] at h
    exact ln_J h jO_nil
  rw [if_neg e] at h; clear e
  by_cases e : K k = 49
  · rw [if_pos e] at h
    exact psLv_J h
  rw [if_neg e] at h; clear e
  by_cases e : K k = 50
  · rw [if_pos e] at h
    exact psLv_J h
  rw [if_neg e] at h; clear e
  by_cases e : K k = 53
  · rw [if_pos e] at h
    obtain ⟨_, h⟩ := ifn_inr h
    rw [psGl_J _ _ _ _ h]
    exact jO_nil
  rw [if_neg e] at h
  exact psBind_J h
theorem psI_J (hR : psJ K R) (h : psI K L I R dp ind s lp tr ca ra sc at' k = .inr x) : jO K lp ca ra x.2.1 := by
  unfold psI at h
  obtain ⟨r, hr, h⟩ := pb_inr h
  obtain ⟨b, hb, h⟩ := sb_inr h
  by_cases hc : (K b.1 = 41 ∨ K b.1 = 42) ∧ I b.1 = ind
  · rw [if_pos hc] at h
    obtain ⟨e, he, h⟩ := sb_inr h
    injection h with h
    subst h
    by_cases h41 : K b.1 = 41
    · rw [if_pos h41] at he
      exact if_J (exs_jF hr) (hR _ _ _ _ _ _ _ _ _ _ _ _ hb) (hR _ _ _ _ _ _ _ _ _ _ _ _ he)
    · rw [if_neg h41] at he
      exact if_J (exs_jF hr) (hR _ _ _ _ _ _ _ _ _ _ _ _ hb) (hR _ _ _ _ _ _ _ _ _ _ _ _ he)
  · rw [if_neg hc] at h
    injection h with h
    subst h
    exact if1_J (exs_jF hr) (hR _ _ _ _ _ _ _ _ _ _ _ _ hb)
theorem psQ_J (hR : psJ K R) {u t : Nat} (h : psQ K L I R u t dp ind s lp tr ca ra sc at' k = .inr x) : jO K lp ca ra x.2.1 := by
  unfold psQ at h
  split at h
  · injection h with h
    subst h
    exact jO_nil
  · obtain ⟨_, h⟩ := ifn_inr h
    obtain ⟨a, ha, h⟩ := sb_inr h
    obtain ⟨b, hb, h⟩ := sb_inr h
    injection h with h
    subst h
    exact jO_app (hR _ _ _ _ _ _ _ _ _ _ _ _ ha) (hR _ _ _ _ _ _ _ _ _ _ _ _ hb)
theorem psB_J (hR : psJ K R) {t : Nat} (h : psB K L I R t dp ind s lp tr ca ra sc at' k = .inr x) : jO K lp ca ra x.2.1 := by
  unfold psB at h
  obtain ⟨_, h⟩ := ifn_inr h
  obtain ⟨_, h⟩ := ifn_inr h
  obtain ⟨_, h⟩ := ifn_inr h
  exact hR _ _ _ _ _ _ _ _ _ _ _ _ h
theorem psC_J (hR : psJ K R) (h : psC K L E R dp ind s ca ra sc at' k = .inr x) : jO K lp ca ra x.2.1 := by
  unfold psC at h
  obtain ⟨y, hy, h⟩ := sb_inr h
  injection h with h
  subst h
  refine jO_c (by unfold isJ; dsimp only; omega) ?_
  show jO K lp (ca + 2) (ra + 2) y.2.1
  unfold psC0 at hy
  by_cases h46 : K k = 46
  · rw [if_pos h46] at hy
    obtain ⟨w, hw, hy⟩ := sb_inr hy
    injection hy with hy
    subst hy
    have g := psDef_J (lp := lp) (x := w) hR hw
    exact jO_app g (jO_no gvO_J)
  rw [if_neg h46] at hy
  by_cases h51 : K k = 51
  · rw [if_pos h51] at hy
    exact ln_J hy jO_nil
  rw [if_neg h51] at hy
  obtain ⟨_, hy⟩ := if_inr hy
  obtain ⟨r, hr, hy⟩ := pb_inr hy
  exact ln_J hy (jO_app (jF_O (exs_jF hr)) (jO_no gvO_J))
theorem ps_J : ∀ F, psJ K (ps K L I E F) := by
  intro F
  induction F with
  | zero => intro t dp ind s lp tr ca ra sc at' k x h; cases h
  | succ F ih =>
    intro t dp ind s lp tr ca ra sc at' k x h
    match t, h with
    | 0, h =>
      have h' : psS K L I E (ps K L I E F) dp ind s lp tr ca ra sc at' k = .inr x := h
      unfold psS at h'
      obtain ⟨y, hy, h'⟩ := sb_inr h'
      injection h' with h'
      subst h'
      refine jO_c (by unfold isJ; dsimp only; omega) ?_
      exact psS0_J (x := y) ih hy
    | 1, h => exact psQ_J ih h
    | 2, h => exact psB_J ih h
    | 3, h => exact psI_J ih h
    | 4, h => exact psQ_J ih h
    | 5, h => exact psC_J ih h
    | t + 6, h => exact psB_J ih h
/-- a whole text at c, r: every jump lands on a step of it -/
theorem psT_jmp {F : Nat} (h : ps K L I E F 1 0 0 0 none 0 0 0 sc0 [] 0 = .inr x) (c r : Int) : jA K (fun p q => bnd K (x.2.1 ++ [(0, [], 0, 0)]) c r p q) c r (x.2.1 ++ [(0, [], 0, 0)]) := by
  have h1 : jO K none 0 0 (x.2.1 ++ [(0, [], 0, 0)]) := jO_app (ps_J F _ _ _ _ _ _ _ _ _ _ _ _ h) (jO_n (by unfold isJ; dsimp only; omega))
  intro i o hi hj
  have g := h1 i o hi hj
  rcases g with ⟨t, t1, t2, t3⟩ | g
  · have t2' : (0 : Int) + ((wC ((x.2.1 ++ [(0, [], 0, 0)]).take i) : Nat) : Int) + o.2.2.1 = (0 : Int) + ((wC ((x.2.1 ++ [(0, [], 0, 0)]).take t) : Nat) : Int) := t2
    have t3' : (0 : Int) + ((wR K ((x.2.1 ++ [(0, [], 0, 0)]).take i) : Nat) : Int) + 1 + o.2.2.2 = (0 : Int) + ((wR K ((x.2.1 ++ [(0, [], 0, 0)]).take t) : Nat) : Int) := t3
    exact ⟨t, t1, by omega, by omega⟩
  · exact g.elim
end
