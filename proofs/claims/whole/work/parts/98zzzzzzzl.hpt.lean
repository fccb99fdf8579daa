/-! HEIGHTS (pure): the induction over texts -/
section
theorem nwS_1 {a b : List (Nat × Nat × Nat × Nat)} {fs : FS} (h : nwS a b fs) (h1 : 1 ≤ a.length) : 1 ≤ b.length := by
  rw [h.1, List.length_append]
  omega
variable {K L I : Nat → Nat} {E : Nat → Nat → Bool} {R : RsT} {dp ind s k tr ca ra h u : Nat} {l : LL} {lp : LpT} {ls s0 s1 : HS} {sc : SCs} {at' : List Nat} {x : PT}
theorem psWh_H (hR : psHA K R) (hx : psWh K L R dp ind s tr ca ra sc at' k = .inr x) (h1 : 1 ≤ sc.1.length) (hs : l.2 = s) (hl : lob l ≤ h) (hh : h ≤ 2 * dp) (ht : tr ≤ dp) : ∃ nw, nwS sc.1 x.2.2.1.1 nw ∧ hO K lp ls ca ra x.2.1 (some (h, tr, l)) (some (h, tr, l)) nw := by
  unfold psWh at hx
  obtain ⟨r, hr, hx⟩ := pb_inr hx
  obtain ⟨b, hb, hx⟩ := sb_inr hx
  injection hx with hx
  subst hx
  obtain ⟨g0, g⟩ := hR _ _ _ _ _ _ _ _ _ _ _ _ (by omega) hb (fun c => absurd rfl c) (by omega) (fun w hw => by injection hw with hw; rw [← hw]; exact Nat.le_refl _) h1
  obtain ⟨nw, n1, n2⟩ := g h l hs hl (by omega) (fun w hw => by injection hw with hw; rw [← hw]; show tmk l (tr - tr); rw [Nat.sub_self]; exact tmk_0 l)
  rw [lpS_0] at n2
  exact ⟨nw, n1, wh_H hl (by omega) (by omega) (exs_H hr hs hl (by omega) (by omega)) n2⟩
theorem psFor_H (hR : psHA K R) (hx : psFor K L E R dp ind s tr ca ra sc at' k = .inr x) (h1 : 1 ≤ sc.1.length) (hs : l.2 = s) (hl : lob l ≤ h) (hh : h ≤ 2 * dp) (ht : tr ≤ dp) : ∃ nw, nwS sc.1 x.2.2.1.1 nw ∧ hO K lp ls ca ra x.2.1 (some (h, tr, l)) (some (h, tr, l)) nw := by
  unfold psFor at hx
  obtain ⟨_, hx⟩ := if_inr hx
  obtain ⟨r, hr, hx⟩ := pb_inr hx
  obtain ⟨b, hb, hx⟩ := sb_inr hx
  injection hx with hx
  subst hx
  obtain ⟨g0, g⟩ := hR _ _ _ _ _ _ _ _ _ _ _ _ (by omega) hb (fun c => absurd rfl c) (by omega) (fun w hw => by injection hw with hw; rw [← hw]; exact Nat.le_refl _) (by rw [(scB_l E s (k + 1) sc).1]; exact h1)
  obtain ⟨nw, n1, n2⟩ := g (h + 2) (lcn h l) hs (Nat.le_refl _) (by omega) (fun w hw => by injection hw with hw; rw [← hw]; show tmk _ (tr - tr); rw [Nat.sub_self]; exact tmk_0 _)
  rw [lpS_0] at n2
  rw [(scB_l E s (k + 1) sc).1] at n1
  exact ⟨nw, n1, for_H rfl (fun _ _ => Or.inr hs.symm) hl (by omega) (by omega) (exs_H hr hs hl (by omega) (by omega)) n2⟩
theorem psTry_H (hR : psHA K R) (hx : psTry K L I E R dp ind s lp tr ca ra sc at' k = .inr x) (h1 : 1 ≤ sc.1.length) (hs : l.2 = s) (hl : lob l ≤ h) (hh : h ≤ 2 * dp) (ht : tr ≤ dp) (hw : ∀ w : Nat × Nat × Nat, lp = some w → w.2.2 ≤ tr) (hk : lpK lp tr l) : ∃ nw, nwS sc.1 x.2.2.1.1 nw ∧ hO K lp (lpS lp h tr l) ca ra x.2.1 (some (h, tr, l)) (some (h, tr, l)) nw := by
  unfold psTry at hx
  obtain ⟨b, hb, hx⟩ := sb_inr hx
  obtain ⟨_, hx⟩ := if_inr hx
  obtain ⟨w, hw', hx⟩ := sb_inr hx
  injection hx with hx
  subst hx
  obtain ⟨g0, g⟩ := hR _ _ _ _ _ _ _ _ _ _ _ _ (by omega) hb (fun c => absurd rfl c) (by omega) (fun w e => by have := hw w e; omega) h1
  obtain ⟨nw, n1, n2⟩ := g h (ltr h l) hs (Nat.le_refl _) (by omega) (fun w e => by have := hw w e; rw [show tr + 1 - w.2.2 = (tr - w.2.2) + 1 by omega]; exact tmk_s (hk w e))
  rw [lpS_s hw] at n2
  obtain ⟨_, g'⟩ := hR _ _ _ _ _ _ _ _ _ _ _ _ (by omega) hw' (fun c => absurd rfl c) (by omega) hw (by rw [hexC_1]; exact nwS_1 n1 h1)
  obtain ⟨nw', m1, m2⟩ := g' h l hs hl (by omega) hk
  rw [hexC_1] at m1
  exact ⟨nw ++ nw', nwS_app n1 m1, try_H hl (by omega) (by omega) (exO_H hs hl (by omega) (by omega)) n2 m2⟩
theorem psDf_H (hR : psHA K R) (hx : psDf K L E R dp ind s ca ra sc at' k = .inr x) (h1 : 1 ≤ sc.1.length) (hs : l.2 = s) (hl : lob l ≤ h) (hh : h ≤ 22) (ht : tr ≤ 10) : ∃ nw, nwS sc.1 x.2.2.1.1 nw ∧ hO K lp ls ca ra x.2.1 (some (h, tr, l)) (some (h, tr, l)) nw := by
  unfold psDf at hx
  obtain ⟨b, hb, hx⟩ := sb_inr hx
  injection hx with hx
  subst hx
  obtain ⟨nw, n1, n2⟩ := psDef_H (lp := lp) (ls := ls) hR hb h1 (lsc_s (h := h) (t := tr) hs) (lbb_s (h := h) (t := tr) (l := l) (by omega) ht) (h22_s hl (by omega) ht)
  refine ⟨nw, ?_, ?_⟩
  · show nwS sc.1 (scB E s (k + 1) b.2.2.1).1 nw
    rw [(scB_l _ _ _ _).1]
    exact n1
  · have := hO_app (fs' := []) n2 (hO_F (hF_off (K := K) (x := 19) (p := [k + 1, s]) (y := 0) (z := 0) (h := h) (by omega) (fun _ _ => Or.inr hs.symm) hl (by omega) ht)) rfl rfl
    rw [List.append_nil] at this
    exact this
theorem psCl_H (hR : psHB K R) (hx : psCl K L E R dp ind s ca ra sc at' k = .inr x) (h1 : 1 ≤ sc.1.length) (hs : l.2 = s) (hl : lob l ≤ h) (hh : h ≤ 2 * dp) (hd : dp ≤ 10) (ht : tr ≤ 10) : ∃ nw, nwS sc.1 x.2.2.1.1 nw ∧ hO K lp ls ca ra x.2.1 (some (h, tr, l)) (some (h, tr, l)) nw := by
  have key : ∀ {j b1 : Nat} {b : PT}, b1 ≤ 1 → R 6 (dp + 1) ind s none 0 ca ra sc [] j = .inr b → ∃ nw, nwS sc.1 (scB E s (k + 1) b.2.2.1).1 nw ∧ hO K lp ls ca ra (b.2.1 ++ clO L s k b1 b.2.2.2) (some (h, tr, l)) (some (h, tr, l)) nw := fun {j b1 b} hb1 hb => by
    obtain ⟨_, g⟩ := hR _ _ _ _ _ _ _ _ _ _ _ _ (by omega) hb (fun c => by omega) h1
    obtain ⟨nw, n1, n2⟩ := g h tr l hs hl (by omega) ht
    refine ⟨nw, by rw [(scB_l _ _ _ _).1]; exact n1, ?_⟩
    have := hO_app (fs' := []) (hO_w (lp := lp) (ls := ls) n2) (hO_F (clO_H (K := K) (L := L) (s := s) (k := k) hb1 hs hl (by omega) ht)) rfl rfl
    rw [List.append_nil] at this
    exact this
  unfold psCl at hx
  obtain ⟨_, hx⟩ := if_inr hx
  by_cases h6 : K (k + 2) = 6
  · rw [if_pos h6] at hx
    obtain ⟨_, hx⟩ := if_inr hx
    obtain ⟨b, hb, hx⟩ := sb_inr hx
    injection hx with hx
    subst hx
    exact key (Nat.le_refl _) hb
  · rw [if_neg h6] at hx
    obtain ⟨b, hb, hx⟩ := sb_inr hx
    injection hx with hx
    subst hx
    exact key (Nat.zero_le _) hb
theorem psS0_H (hR : psHA K R) (hB : psHB K R) (hd : dp ≤ 10) (hx : psS0 K L I E R dp ind s lp tr ca ra sc at' k = .inr x) (h1 : 1 ≤ sc.1.length) (hs : l.2 = s) (hl : lob l ≤ h) (hh : h ≤ 2 * dp) (ht : tr ≤ dp) (hw : ∀ w : Nat × Nat × Nat, lp = some w → w.2.2 ≤ tr) (hk : lpK lp tr l) : ∃ nw, nwS sc.1 x.2.2.1.1 nw ∧ hO K lp (lpS lp h tr l) ca ra x.2.1 (some (h, tr, l)) (some (h, tr, l)) nw := by
  unfold psS0 at hx
  by_cases e : K k = 40
  · rw [if_pos e] at hx
    exact (hR _ _ _ _ _ _ _ _ _ _ _ _ (by omega) hx (fun _ => hd) ht hw h1).2 h l hs hl hh hk
  rw [if_neg e] at hx; clear e
  by_cases e : K k = 43
  · rw [if_pos e] at hx
    exact psWh_H hR hx h1 hs hl hh ht
  rw [if_neg e] at hx; clear e
  by_cases e : K k = 44
  · rw [if_pos e] at hx
    exact psFor_H hR hx h1 hs hl hh ht
  rw [if_neg e] at hx; clear e
  by_cases e : K k = 46
  · rw [if_pos e] at hx
    exact psDf_H hR hx h1 hs hl (by omega) (by omega)
  rw [if_neg e] at hx; clear e
  by_cases e : K k = 47
  · rw [if_pos e] at hx
    exact psCl_H hB hx h1 hs hl hh hd (by omega)
  rw [if_neg e] at hx; clear e
  by_cases e : K k = 54
  · rw [if_pos e] at hx
    exact psTry_H hR hx h1 hs hl hh ht hw hk
  rw [if_neg e] at hx; clear e
  by_cases e : K k = 52
  · rw [if_pos e] at hx
    exact psDel_H hx hs hl (by omega) (by omega)
  rw [if_neg e] at hx; clear e
  by_cases e : K k = 48
  · rw [if_pos e] at hx
    exact psRet_H hx hs hl (by omega) (by omega)
  rw [if_neg e] at hx; clear e
  by_cases e : K k = 56
  · rw [if_pos e] at hx
    exact psRse_H hx hs hl (by omega) (by omega)
  rw [if_neg e] at hx; clear e
  by_cases e : K k = 51
  · rw [if_pos e] at hx
    exact ln_H hx rfl (hF_nil (g := l.2))
  rw [if_neg e] at hx; clear e
  by_cases e : K k = 49
  · rw [if_pos e] at hx
    exact psLv_H hx hl (by omega) (by omega) hw hk
  rw [if_neg e] at hx; clear e
  by_cases e : K k = 50
  · rw [if_pos e] at hx
    exact psLv_H hx hl (by omega) (by omega) hw hk
  rw [if_neg e] at hx; clear e
  by_cases e : K k = 53
  · rw [if_pos e] at hx
    obtain ⟨_, hx⟩ := ifn_inr hx
    obtain ⟨g1, g2⟩ := psGl_H _ _ _ _ hx
    rw [g1]
    exact ⟨[], nwS_0 g2, hO_nil⟩
  rw [if_neg e] at hx
  exact psBind_H hx hs hl (by omega) (by omega)
theorem psI_H (hR : psHA K R) (hd : dp ≤ 10) (hx : psI K L I R dp ind s lp tr ca ra sc at' k = .inr x) (h1 : 1 ≤ sc.1.length) (hs : l.2 = s) (hl : lob l ≤ h) (hh : h ≤ 2 * dp) (ht : tr ≤ dp) (hw : ∀ w : Nat × Nat × Nat, lp = some w → w.2.2 ≤ tr) (hk : lpK lp tr l) : ∃ nw, nwS sc.1 x.2.2.1.1 nw ∧ hO K lp (lpS lp h tr l) ca ra x.2.1 (some (h, tr, l)) (some (h, tr, l)) nw := by
  unfold psI at hx
  obtain ⟨r, hr, hx⟩ := pb_inr hx
  obtain ⟨b, hb, hx⟩ := sb_inr hx
  obtain ⟨g0, g⟩ := hR _ _ _ _ _ _ _ _ _ _ _ _ (by omega) hb (fun c => absurd rfl c) (by omega) hw h1
  obtain ⟨nw, n1, n2⟩ := g h l hs hl (by omega) hk
  have hr' := exs_H (h := h) (tr := tr) (l := l) hr hs hl (by omega) (by omega)
  by_cases hc : (K b.1 = 41 ∨ K b.1 = 42) ∧ I b.1 = ind
  · rw [if_pos hc] at hx
    obtain ⟨e, he, hx⟩ := sb_inr hx
    injection hx with hx
    subst hx
    have two : ∃ nw', nwS b.2.2.1.1 e.2.2.1.1 nw' ∧ hO K lp (lpS lp h tr l) (ca + wC r.2.2 + 2 + wC b.2.1 + 2) (ra + wR K r.2.2 + 2 + wR K b.2.1 + 2) e.2.1 (some (h, tr, l)) (some (h, tr, l)) nw' := by
      by_cases h41 : K b.1 = 41
      · rw [if_pos h41] at he
        exact (hR _ _ _ _ _ _ _ _ _ _ _ _ (by omega) he (fun _ => hd) ht hw (nwS_1 n1 h1)).2 h l hs hl hh hk
      · rw [if_neg h41] at he
        exact (hR _ _ _ _ _ _ _ _ _ _ _ _ (by omega) he (fun c => absurd rfl c) (by omega) hw (nwS_1 n1 h1)).2 h l hs hl (by omega) hk
    obtain ⟨nw', m1, m2⟩ := two
    exact ⟨nw ++ nw', nwS_app n1 m1, if_H hl (by omega) (by omega) hr' n2 m2⟩
  · rw [if_neg hc] at hx
    injection hx with hx
    subst hx
    exact ⟨nw, n1, if1_H hl (by omega) (by omega) hr' n2⟩
theorem exs_22 {q : Nat × Nat × List Op} (hq : exs K s k = some q) {o : Op} (ho : o ∈ q.2.2) : o.1 ≠ 22 := by
  obtain ⟨w, w1', _, _, w4⟩ := exs_H (h := 0) (tr := 0) (l := ([], s)) hq rfl (Nat.le_refl _) (by omega) (by omega)
  rw [← w1'] at ho
  obtain ⟨y, hy, e⟩ := List.mem_map.mp ho
  rw [← e]
  exact (w4 y hy).2
theorem psC_H (hR : psHA K R) (hd : dp ≤ 10) (hx : psC K L E R dp ind s ca ra sc at' k = .inr x) (h1 : 1 ≤ sc.1.length) (hs : l.2 = s) (hl : lob l ≤ h) (hh : h ≤ 2 * dp) (hu : u ≤ 10) : ∃ nw, nwS sc.1 x.2.2.1.1 nw ∧ hO K none none ca ra x.2.1 (cst h u l at') (cst h u l x.2.2.2) nw := by
  unfold psC at hx
  obtain ⟨y, hy, hx⟩ := sb_inr hx
  injection hx with hx
  subst hx
  have h01 : hF K l.2 [((1, [L k], 0, 0) : Op)] (cst h u l at') (cst h u l at') := by
    unfold cst
    split
    · exact hF_0 (by omega) (by omega) (by omega) hu
    · exact hF_dead _ (List.cons_ne_nil _ _) (fun o ho => by rw [List.mem_singleton] at ho; rw [ho]; dsimp only; omega)
  suffices hss : ∃ nw, nwS sc.1 y.2.2.1.1 nw ∧ hO K none none (ca + 2) (ra + 2) y.2.1 (cst h u l at') (cst h u l y.2.2.2) nw by
    obtain ⟨nw, n1, n2⟩ := hss
    exact ⟨nw, n1, hO_c h01 n2⟩
  unfold psC0 at hy
  by_cases h46 : K k = 46
  · rw [if_pos h46] at hy
    obtain ⟨w, hw, hy⟩ := sb_inr hy
    injection hy with hy
    subst hy
    have hb0 : lbb (cst h u l at') := by
      unfold cst
      split
      · exact lbb_s (by omega) hu
      · exact lbb_0
    obtain ⟨nw, n1, n2⟩ := psDef_H (lp := none) (ls := none) (s1 := cs1 h u l at') hR hw h1 (by
      unfold cst
      split
      · exact lsc_s hs
      · exact lsc_0) hb0 (by
      unfold cst cs1
      by_cases h40 : at'.length ≤ 40
      · rw [if_pos h40, if_pos h40]
        exact h22_s (by omega) (by omega) hu
      · rw [if_neg h40, if_neg h40]
        exact h22_n)
    refine ⟨nw, n1, ?_⟩
    have := hO_app (fs' := []) n2 (hO_F (gvO_H (K := K) (E := E) (j := k + 1) hl (by omega) hu)) rfl rfl
    rw [List.append_nil] at this
    exact this
  rw [if_neg h46] at hy
  by_cases h51 : K k = 51
  · rw [if_pos h51] at hy
    obtain ⟨_, v2⟩ := ln_inr hy
    rw [v2]
    exact ⟨[], nwS_0 rfl, hO_nil⟩
  rw [if_neg h51] at hy
  obtain ⟨_, hy⟩ := if_inr hy
  obtain ⟨r, hr, hy⟩ := pb_inr hy
  obtain ⟨_, v2⟩ := ln_inr hy
  rw [v2]
  refine ⟨[], nwS_0 rfl, hO_F (hF_app (s1 := cs1 h u l at') ?_ (gvO_H hl (by omega) hu))⟩
  unfold cst cs1
  by_cases h40 : at'.length ≤ 40
  · rw [if_pos h40, if_pos h40]
    exact exs_H hr hs (by omega) (by omega) hu
  · rw [if_neg h40, if_neg h40]
    refine hF_dead _ (fun c => ?_) (fun o ho => exs_22 hr ho)
    obtain ⟨w, w1', w2, _⟩ := exs_H (h := 0) (tr := 0) (l := ([], s)) hr rfl (Nat.le_refl _) (by omega) (by omega)
    rw [c] at w1'
    cases w with
    | nil => cases w2
    | cons y w => cases w1'
theorem ps_H2 : ∀ F, psHA K (ps K L I E F) ∧ psHB K (ps K L I E F) := by
  intro F
  induction F with
  | zero => exact ⟨(fun t dp ind s lp tr ca ra sc at' k x _ h => by cases h), (fun t dp ind s lp tr ca ra sc at' k x _ h => by cases h)⟩
  | succ F ih =>
    obtain ⟨iA, iB⟩ := ih
    have hQA : ∀ dp ind s lp tr ca ra sc at' k x, dp ≤ 10 → psQ K L I (ps K L I E F) 0 1 dp ind s lp tr ca ra sc at' k = .inr x → tr ≤ dp → (∀ w : Nat × Nat × Nat, lp = some w → w.2.2 ≤ tr) → 1 ≤ sc.1.length → ∀ h (l : LL), l.2 = s → lob l ≤ h → h ≤ 2 * dp → lpK lp tr l → ∃ nw, nwS sc.1 x.2.2.1.1 nw ∧ hO K lp (lpS lp h tr l) ca ra x.2.1 (some (h, tr, l)) (some (h, tr, l)) nw := by
      intro dp ind s lp tr ca ra sc at' k x hd hx ht hw h1 h l hs hl hh hk
      unfold psQ at hx
      split at hx
      · injection hx with hx
        subst hx
        exact ⟨[], nwS_0 rfl, hO_nil⟩
      · obtain ⟨_, hx⟩ := ifn_inr hx
        obtain ⟨a, ha, hx⟩ := sb_inr hx
        obtain ⟨b, hb, hx⟩ := sb_inr hx
        injection hx with hx
        subst hx
        obtain ⟨nw, n1, n2⟩ := (iA _ _ _ _ _ _ _ _ _ _ _ _ (by omega) ha (fun _ => hd) ht hw h1).2 h l hs hl hh hk
        obtain ⟨nw', m1, m2⟩ := (iA _ _ _ _ _ _ _ _ _ _ _ _ (by omega) hb (fun _ => hd) ht hw (nwS_1 n1 h1)).2 h l hs hl hh hk
        exact ⟨nw ++ nw', nwS_app n1 m1, hO_app n2 m2 rfl rfl⟩
    have hQB : ∀ dp ind s lp tr ca ra sc at' k x, dp ≤ 10 → psQ K L I (ps K L I E F) 5 4 dp ind s lp tr ca ra sc at' k = .inr x → 1 ≤ sc.1.length → ∀ h u (l : LL), l.2 = s → lob l ≤ h → h ≤ 2 * dp → u ≤ 10 → ∃ nw, nwS sc.1 x.2.2.1.1 nw ∧ hO K none none ca ra x.2.1 (cst h u l at') (cst h u l x.2.2.2) nw := by
      intro dp ind s lp tr ca ra sc at' k x hd hx h1 h u l hs hl hh hu
      unfold psQ at hx
      split at hx
      · injection hx with hx
        subst hx
        exact ⟨[], nwS_0 rfl, hO_nil⟩
      · obtain ⟨_, hx⟩ := ifn_inr hx
        obtain ⟨a, ha, hx⟩ := sb_inr hx
        obtain ⟨b, hb, hx⟩ := sb_inr hx
        injection hx with hx
        subst hx
        obtain ⟨nw, n1, n2⟩ := (iB _ _ _ _ _ _ _ _ _ _ _ _ (by omega) ha (fun _ => hd) h1).2 h u l hs hl hh hu
        obtain ⟨nw', m1, m2⟩ := (iB _ _ _ _ _ _ _ _ _ _ _ _ (by omega) hb (fun _ => hd) (nwS_1 n1 h1)).2 h u l hs hl hh hu
        exact ⟨nw ++ nw', nwS_app n1 m1, hO_app n2 m2 rfl rfl⟩
    refine ⟨?_, ?_⟩
    · intro t dp ind s lp tr ca ra sc at' k x h3 hx hd ht hw h1
      match t, h3, hx, hd with
      | 0, _, hx, hd =>
        have hd' := hd (by omega)
        refine ⟨hd', fun h l hs hl hh hk => ?_⟩
        have h' : psS K L I E (ps K L I E F) dp ind s lp tr ca ra sc at' k = .inr x := hx
        unfold psS at h'
        obtain ⟨y, hy, h'⟩ := sb_inr h'
        injection h' with h'
        subst h'
        obtain ⟨nw, n1, n2⟩ := psS0_H (h := h) (l := l) iA iB hd' hy h1 hs hl hh ht hw hk
        exact ⟨nw, n1, hO_c (hF_0 (by omega) hl (by omega) (by omega)) n2⟩
      | 1, _, hx, hd => exact ⟨hd (by omega), fun h l hs hl hh hk => hQA _ _ _ _ _ _ _ _ _ _ _ (hd (by omega)) hx ht hw h1 h l hs hl hh hk⟩
      | 2, _, hx, _ =>
        have h' : psB K L I (ps K L I E F) 1 dp ind s lp tr ca ra sc at' k = .inr x := hx
        unfold psB at h'
        obtain ⟨_, h'⟩ := ifn_inr h'
        obtain ⟨_, h'⟩ := ifn_inr h'
        obtain ⟨hn, h'⟩ := ifn_inr h'
        exact iA _ _ _ _ _ _ _ _ _ _ _ _ (by omega) h' (fun _ => by omega) ht hw h1
      | 3, _, hx, hd => exact ⟨hd (by omega), fun h l hs hl hh hk => psI_H iA (hd (by omega)) hx h1 hs hl hh ht hw hk⟩
      | t + 4, h3, _, _ => omega
    · intro t dp ind s lp tr ca ra sc at' k x h4 hx hd h1
      match t, h4, hx, hd with
      | 0, h4, _, _ => omega
      | 1, h4, _, _ => omega
      | 2, h4, _, _ => omega
      | 3, h4, _, _ => omega
      | 4, _, hx, hd => exact ⟨hd (by omega), fun h u l hs hl hh hu => hQB _ _ _ _ _ _ _ _ _ _ _ (hd (by omega)) hx h1 h u l hs hl hh hu⟩
      | 5, _, hx, hd => exact ⟨hd (by omega), fun h u l hs hl hh hu => psC_H iA (hd (by omega)) hx h1 hs hl hh hu⟩
      | t + 6, _, hx, _ =>
        have h' : psB K L I (ps K L I E F) 4 dp ind s lp tr ca ra sc at' k = .inr x := hx
        unfold psB at h'
        obtain ⟨_, h'⟩ := ifn_inr h'
        obtain ⟨_, h'⟩ := ifn_inr h'
        obtain ⟨hn, h'⟩ := ifn_inr h'
        exact iB _ _ _ _ _ _ _ _ _ _ _ _ (by omega) h' (fun _ => by omega) h1
/-- a whole text: labels of all its steps; where its functions begin; the scopes around its functions -/
theorem psT_H {F : Nat} (hx : ps K L I E F 1 0 0 0 none 0 0 0 sc0 [] 0 = .inr x) : ∃ w : LO, opsO w = x.2.1 ++ [(0, [], 0, 0)] ∧ hhd w none = some (0, 0, ([], 0)) ∧ hA K (fun p q s => hbn K none w 0 0 p q s ∨ ∃ (i : Nat) (e : Nat × Nat × Nat × Nat), 1 ≤ i ∧ x.2.2.1.1[i]? = some e ∧ p = -(i : Int) ∧ s.2.2.2 = e.1) none none w 0 0 ∧ ∀ i e, 1 ≤ i → x.2.2.1.1[i]? = some e → hbn K none w 0 0 (e.2.1 : Nat) (e.2.2.1 : Nat) (0, 0, ([], i)) := by
  obtain ⟨_, g⟩ := (ps_H2 F).1 _ _ _ _ _ _ _ _ _ _ _ _ (by omega) hx (fun _ => by omega) (Nat.le_refl _) (fun w hw => by cases hw) (Nat.le_refl _)
  obtain ⟨nw, n1, n2⟩ := g 0 ([], 0) rfl (Nat.le_refl _) (by omega) (fun w hw => by cases hw)
  have h0 : hF K 0 [((0, [], 0, 0) : Op)] (some (0, 0, ([], 0))) none := hF_1 (by unfold isJ; dsimp only; omega) (by dsimp only; omega) (by dsimp only; omega) (lbb_s (by omega) (by omega)) (lsc_s rfl) (fun h' t' l' e => by
    unfold hef
    dsimp only
    rw [if_neg (by omega), if_neg (by omega), if_neg (by omega), if_neg (by omega), if_neg (by omega), if_pos (by omega)]
    exact True.intro)
  obtain ⟨w, x1, x2, x3, x4⟩ := hO_app (fs' := []) n2 (hO_F h0) rfl rfl
  rw [List.append_nil] at x3 x4
  have hl1 : ∀ (m : Nat) (f : Nat × Nat × Nat × Nat × Nat), nw[m]? = some f → f.1 = 1 + m ∧ x.2.2.1.1[1 + m]? = some f.2 := fun m f hf => by
    refine ⟨n1.2 m f hf, ?_⟩
    rw [n1.1, List.getElem?_append_right (by show 1 ≤ 1 + m; omega)]
    show (nw.map (fun f => f.2))[1 + m - 1]? = _
    rw [Nat.add_sub_cancel_left, List.getElem?_map, hf]
    rfl
  refine ⟨w, x1, x2, hA_T x3 (fun p q s g => ?_), fun i e hi he => ?_⟩
  · rcases g with g | g | ⟨f, f1, f2, f3⟩
    · exact Or.inl g
    · exact g.1.elim
    · obtain ⟨m, hm⟩ := List.mem_iff_getElem?.mp f1
      obtain ⟨e1, e2⟩ := hl1 m f hm
      exact Or.inr ⟨1 + m, f.2, by omega, e2, by rw [← e1]; exact f2, f3⟩
  · obtain ⟨m, rfl⟩ : ∃ m, i = 1 + m := ⟨i - 1, by omega⟩
    have hlt : m < nw.length := by
      have := (List.getElem?_eq_some_iff.mp he).1
      rw [n1.1, List.length_append, List.length_map] at this
      have h1 : sc0.1.length = 1 := rfl
      omega
    obtain ⟨e1, e2⟩ := hl1 m nw[m] (List.getElem?_eq_getElem hlt)
    rw [he] at e2
    injection e2 with e2
    have g := x4 nw[m] (List.getElem_mem hlt)
    rw [← e2, e1] at g
    exact g
end
