/-! THE RULES OF EXPR IN THE REFERENCE: comparisons, values in brackets, what is behind a value -/
section
variable {β : Nat → Nat} {n : Nat} {V : Nat → Int32} {P : Int32 → Int32 × Int32} {own0 : Nat → Nat × Nat} {m u k1 Mx Mw F : Nat} {S0 : cS}
def csg (K : Nat) : Nat := if cmpO K = 0 then 0 else bsg K
theorem cmpO_l {K : Nat} (h : cmpO K ≠ 0) : K = 26 ∨ K = 60 ∨ K = 27 ∨ K = 20 ∨ K = 28 ∨ K = 21 ∨ K = 29 ∨ K = 45 := by
  unfold cmpO at h
  repeat' split at h
  all_goals omega
/-- the sign of a comparison, if there is one -/
theorem xcm_at (hX : cX β n V P m S0 k1 Mx Mw) {d D k c w tt : Nat} {S Sf : cS} {v : Option Value} (hd : d ≤ 12) (hk : k ≤ k1) (hE : rE own0 m u S0 c w tt S) (ha : sI S 6115 = nI k) (hB : ∀ lv, LX lv d → sm_get lv 2 = some (.int (nI (csg (qK β n k)))) → Bod (D + 8) 310 150 lv [] S v Sf) : ∀ lv, LX lv d → Bod (D + 8) 310 10 lv [] S v Sf := by
  intro lv hl
  have hkM := hX.2.1
  have y5 := xwd_at (d := D + 7) (q := 5) hX hE ha hk (by omega)
  have y20 := xwd_at (d := D + 7) (q := 20) hX hE ha hk (by omega)
  by_cases k45 : qK β n k = 45
  · rw [k45] at hB
    exact re_cmp_in hl.1 hl.2 hd (y5.1 k45) (fun lv1 h0 h1 h2 => hB lv1 ⟨h0, h1⟩ h2)
  by_cases k60 : qK β n k = 60
  · rw [k60] at hB
    exact re_cmp_is hl.1 hl.2 hd (y5.2 (by omega)) (y20.1 k60) (fun lv1 h0 h1 h2 => hB lv1 ⟨h0, h1⟩ h2)
  obtain ⟨x1, x2, x3, x4, x5⟩ := cX_tk hX hk
  have hA8 := rE_A hE
  have hkd : sA S 67 k = nI (rkd (qK β n k)) := by rw [hA8.1]; exact x5.1
  have hkM2 := rkd_lt (qK β n k)
  by_cases h5 : rkd (qK β n k) = 5
  · have h6 := rkd_5.mp h5
    have hvl : sA S 68 k = nI (rsg (qK β n k)) := by rw [hA8.2.1]; exact x5.2.2.2.2.2.1 h6
    have hvM := rsg_lt (qK β n k) (by omega)
    by_cases k26 : qK β n k = 26
    · rw [k26] at hB hvl
      exact re_cmp_s0 hl.1 hl.2 hd (y5.2 k45) (y20.2 k60) ha (by omega) hkd (by omega) h5 hvl (by decide) rfl (fun lv1 h0 h1 h2 => hB lv1 ⟨h0, h1⟩ h2)
    by_cases k27 : qK β n k = 27
    · rw [k27] at hB hvl
      exact re_cmp_s1 hl.1 hl.2 hd (y5.2 k45) (y20.2 k60) ha (by omega) hkd (by omega) h5 hvl (by decide) rfl (fun lv1 h0 h1 h2 => hB lv1 ⟨h0, h1⟩ h2)
    by_cases k28 : qK β n k = 28
    · rw [k28] at hB hvl
      exact re_cmp_s2 hl.1 hl.2 hd (y5.2 k45) (y20.2 k60) ha (by omega) hkd (by omega) h5 hvl (by decide) rfl (fun lv1 h0 h1 h2 => hB lv1 ⟨h0, h1⟩ h2)
    by_cases k29 : qK β n k = 29
    · rw [k29] at hB hvl
      exact re_cmp_s3 hl.1 hl.2 hd (y5.2 k45) (y20.2 k60) ha (by omega) hkd (by omega) h5 hvl (by decide) rfl (fun lv1 h0 h1 h2 => hB lv1 ⟨h0, h1⟩ h2)
    by_cases k20 : qK β n k = 20
    · rw [k20] at hB hvl
      exact re_cmp_s4 hl.1 hl.2 hd (y5.2 k45) (y20.2 k60) ha (by omega) hkd (by omega) h5 hvl (by decide) rfl (fun lv1 h0 h1 h2 => hB lv1 ⟨h0, h1⟩ h2)
    by_cases k21 : qK β n k = 21
    · rw [k21] at hB hvl
      exact re_cmp_s5 hl.1 hl.2 hd (y5.2 k45) (y20.2 k60) ha (by omega) hkd (by omega) h5 hvl (by decide) rfl (fun lv1 h0 h1 h2 => hB lv1 ⟨h0, h1⟩ h2)
    have hc : csg (qK β n k) = 0 := by
      unfold csg
      rw [if_pos]
      unfold cmpO
      rw [if_neg k26, if_neg k60, if_neg k27, if_neg k20, if_neg k28, if_neg k21, if_neg k29, if_neg k45]
    rw [hc] at hB
    have ne : ∀ K, 6 ≤ K → K ≤ 29 → qK β n k ≠ K → rsg (qK β n k) ≠ rsg K := fun K a1 a2 a3 e => a3 (rsg_inj _ h6.2 h6.1 K a2 a1 e)
    exact re_cmp_o hl.1 hl.2 hd (y5.2 k45) (y20.2 k60) ha (by omega) hkd (by omega) h5 hvl (by omega) (ne 26 (by omega) (by omega) k26) (ne 27 (by omega) (by omega) k27) (ne 28 (by omega) (by omega) k28) (ne 29 (by omega) (by omega) k29) (ne 20 (by omega) (by omega) k20) (ne 21 (by omega) (by omega) k21) (fun lv1 h0 h1 h2 => hB lv1 ⟨h0, h1⟩ h2)
  · have hc : csg (qK β n k) = 0 := by
      unfold csg
      by_cases h0 : cmpO (qK β n k) = 0
      · rw [if_pos h0]
      · exact absurd (rkd_5.mpr (by have := cmpO_l h0; omega)) h5
    rw [hc] at hB
    exact re_cmp_k hl.1 hl.2 hd (y5.2 k45) (y20.2 k60) ha (by omega) hkd (by omega) h5 (fun lv1 h0 h1 h2 => hB lv1 ⟨h0, h1⟩ h2)
theorem csg_lt (K : Nat) : csg K < 100000 ∧ (cmpO K ≠ 0 → csg K = bsg K ∧ csg K ≠ 0) := by
  unfold csg
  by_cases h : cmpO K = 0
  · rw [if_pos h]
    exact ⟨by omega, fun e => absurd h e⟩
  · rw [if_neg h]
    rcases cmpO_l h with rfl | rfl | rfl | rfl | rfl | rfl | rfl | rfl <;> exact ⟨by decide, fun _ => ⟨rfl, by decide⟩⟩
theorem XA5_s (hX : cX β n V P m S0 k1 Mx Mw) (hA : XA β n V P own0 m u S0 k1 Mx Mw F) : XA1 β n V P own0 m u S0 k1 Mx Mw (F + 1) 5 := by
  intro d k S c w tt D hd hm hk hE ha hf hR hD
  have ek : rkp 5 = 7 := rfl
  have ek2 : rkp 6 = 6 := rfl
  obtain ⟨D', rfl⟩ : ∃ D', D = D' + 9 := ⟨D - 9, by omega⟩
  have hkM := hX.2.1
  have hmM := hX.2.2.2.2.1
  have hMx := hX.2.2.2.2.2.1
  have h86 := hX.2.2.2.2.2.2.2.1
  show ∃ S1 v, Ans (D' + 9) 310 [.ref 61, .int (nI d)] S (some (.int v)) S1 ∧ xO β n V P own0 m u S0 Mx Mw S c w tt k _ (px5 (qK β n) (px (qK β n) F) d k) v S1
  obtain ⟨S1, v, p1, p2⟩ := hA 6 (by decide) d k S c w tt (D' + 8) hd (by omega) hk hE ha hf hR (by omega)
  replace p1 : Ans (D' + 8) 311 [.ref 61, .int (nI d)] S (some (.int v)) S1 := p1
  cases hr : px (qK β n) F 6 d k 0 0 with
  | none =>
    obtain ⟨hv, hb⟩ := p2.1 hr
    rw [hv] at p1
    exact ⟨S1, nI 0, re_cmp_no (d := D') hd p1, xO_none (by unfold px5; rw [hr]; rfl) rfl hb⟩
  | some r1 =>
    obtain ⟨hv, hok⟩ := p2.2 r1 hr
    rw [hv] at p1
    obtain ⟨e1, e2, e3, e4, e5, e6, e7⟩ := xpm_at hX (Or.inl (by decide)) hk hR hr
    have e8 := e7 (by decide)
    obtain ⟨s1, s2, s3⟩ := eOR_st hok
    obtain ⟨q1, q2⟩ := csg_lt (qK β n r1.1)
    by_cases h0 : cmpO (qK β n r1.1) = 0
    · refine ⟨S1, nI 1, re_cmp_go (d := D') hd p1 (fun lv1 h0' h1 => xcm_at hX hd e2 s1 s2 (fun lv hl h2 => re_cmp_0 hl.1 hl.2 h2 hd q1 (by unfold csg; rw [if_pos h0])) lv1 ⟨h0', h1⟩), xO_some (x := r1) (by unfold px5; rw [hr]; show (if _ then _ else _) = _; rw [if_pos h0]) rfl (eOR_q hok (fun _ e => absurd e (by decide)))⟩
    · obtain ⟨q3, q4⟩ := q2 h0
      have h3 : 3 ≤ qK β n r1.1 := by have := cmpO_l h0; omega
      obtain ⟨g1, g2, g3, g4, g5, g6⟩ := xnx_at hX e2 h3 e6
      obtain ⟨t1, t2⟩ := rE_wI (i := 6115) (x := nI (r1.1 + 1)) s1 (Or.inl rfl)
      obtain ⟨S2, v2, a1, a2⟩ := hA 6 (by decide) d (r1.1 + 1) _ _ _ _ (D' + 8) hd (by omega) g1 t1 (rIe _ _ _) ((rIn _ _ (by decide)).trans s3) g5 (by omega)
      replace a1 : Ans (D' + 8) 311 [.ref 61, .int (nI d)] (wI 6115 (nI (r1.1 + 1)) S1) (some (.int v2)) S2 := a1
      cases hr2 : px (qK β n) F 6 d (r1.1 + 1) 0 0 with
      | none =>
        obtain ⟨hv2, hb⟩ := a2.1 hr2
        rw [hv2] at a1
        refine ⟨S2, nI 0, re_cmp_go (d := D') hd p1 (fun lv1 h0' h1 => xcm_at hX hd e2 s1 s2 (fun lv hl h2 => re_cmp_bad hl.1 hl.2 h2 hd q1 q4 s2 (by omega) a1) lv1 ⟨h0', h1⟩), xO_none (by unfold px5; rw [hr]; show (if _ then _ else _) = _; rw [if_neg h0, hr2]; rfl) rfl (xB_eq hb (g2.trans e5))⟩
      | some r2 =>
        obtain ⟨hv2, hok2⟩ := a2.2 r2 hr2
        rw [hv2] at a1
        obtain ⟨f1, f2, f3, f4, f5, f6, f7⟩ := xpm_at hX (Or.inl (by decide)) g1 g5 hr2
        obtain ⟨z1, z2, z3⟩ := f6
        obtain ⟨c1, c2⟩ := cmpO_ok h0
        obtain ⟨S3, i1, i2⟩ := eOR_2 (d := D' + 4) (o := (cmpO (qK β n r1.1), [qK β n r1.1], 0, 0)) (x := nI 8) (y := nI (csg (qK β n r1.1))) (eOR_x t2 hok2) (by omega) h86 hmM (lR_2 (by dsimp only; omega)) (by dsimp only; omega) (fun S2 c1 c2 => oR_B (by omega) c1 (by rw [← q3]; exact c2))
        have h9 := eOR_t0 (eOR_app hok i2)
        exact ⟨_, nI 1, re_cmp_go (d := D') hd p1 (fun lv1 h0' h1 => xcm_at hX hd e2 s1 s2 (fun lv hl h2 => re_cmp_T hl.1 hl.2 h2 hd q1 q4 s2 (by omega) a1 i1) lv1 ⟨h0', h1⟩), xO_some (x := (r2.1, 0, r1.2.2 ++ (r2.2.2 ++ [(cmpO (qK β n r1.1), [qK β n r1.1], 0, 0)]))) (by unfold px5; rw [hr]; show (if _ then _ else _) = _; rw [if_neg h0, hr2]; rfl) rfl (eOR_q h9 (fun _ => trivial))⟩
def LX5 (lv : sm_L) (d b pr c : Nat) : Prop := LX lv d ∧ sm_get lv 2 = some (.int (nI (rsg b))) ∧ sm_get lv 3 = some (.int (nI (most b))) ∧ sm_get lv 4 = some (.int (nI pr)) ∧ sm_get lv 5 = some (.int (nI c))
def xV (β : Nat → Nat) (n : Nat) (V : Nat → Int32) (P : Int32 → Int32 × Int32) (own0 : Nat → Nat × Nat) (m u : Nat) (S0 : cS) (Mx Mw : Nat) (S : cS) (c w t k : Nat) (r : PR) (v : Int32) (S1 : cS) : Prop := (r = none → v = Int32.ofInt (-1) ∧ xB β n own0 m u S0 Mx Mw k S1) ∧ ∀ x, r = some x → v = nI x.2.1 ∧ x.2.1 ≤ 40 ∧ eOR β n V P own0 m u S0 S c w t x.1 0 x.2.2 False S1
theorem xV_none {S S1 : cS} {c w t k : Nat} {r : PR} {v : Int32} (hr : r = none) (hv : v = Int32.ofInt (-1)) (h : xB β n own0 m u S0 Mx Mw k S1) : xV β n V P own0 m u S0 Mx Mw S c w t k r v S1 := ⟨fun _ => ⟨hv, h⟩, fun x hx => by rw [hr] at hx; cases hx⟩
theorem xV_some {S S1 : cS} {c w t k : Nat} {r : PR} {v : Int32} {x : Nat × Nat × List Op} (hr : r = some x) (hv : v = nI x.2.1) (hm : x.2.1 ≤ 40) (h : eOR β n V P own0 m u S0 S c w t x.1 0 x.2.2 False S1) : xV β n V P own0 m u S0 Mx Mw S c w t k r v S1 := by
  refine ⟨fun hn => ?_, fun y hy => ?_⟩
  · rw [hr] at hn; cases hn
  · rw [hr] at hy
    injection hy with hy
    subst hy
    exact ⟨hv, hm, h⟩
theorem eOR_0 {S S1 : cS} {c w t j g : Nat} {os : List Op} {q : Prop} (h : eOR β n V P own0 m u S0 S c w t j g os q S1) : eOR β n V P own0 m u S0 S c w t j 0 os False S1 := ⟨h.1, h.2.1, h.2.2.1, h.2.2.2.1, h.2.2.2.2.1, fun e => e.elim⟩
theorem eOR_z {S : cS} {c w t j : Nat} (hE : rE own0 m u S0 c w t S) (ha : sI S 6115 = nI j) (hf : sI S 6116 = nI 0) : eOR β n V P own0 m u S0 S c w t j 0 [] False S := ⟨hE, ha, hf, trivial, kR_refl _ _ _ _ _, fun e => e.elim⟩
def XL (β : Nat → Nat) (n : Nat) (V : Nat → Int32) (P : Int32 → Int32 × Int32) (own0 : Nat → Nat × Nat) (m u : Nat) (S0 : cS) (k1 Mx Mw F : Nat) : Prop := ∀ (d k : Nat) (S : cS) (c w tt D a b : Nat), (b = 7 ∨ b = 9) → d ≤ 11 → 16 * (n - qP β n k) + 12 < F → a ≤ most b → k ≤ k1 → rE own0 m u S0 c w tt S → sI S 6115 = nI k → sI S 6116 = nI 0 → RQ β n k c w tt Mx Mw → 20 + 16 * (13 - d) - 6 ≤ D → ∃ S1 v, (∀ lv, LX5 lv d b 0 a → Bod D 324 26 lv [] S (some (.int v)) S1) ∧ xV β n V P own0 m u S0 Mx Mw S c w tt k (px (qK β n) F 13 (d + 1) k a b) v S1
def XQ (β : Nat → Nat) (n : Nat) (V : Nat → Int32) (P : Int32 → Int32 × Int32) (own0 : Nat → Nat × Nat) (m u : Nat) (S0 : cS) (k1 Mx Mw F : Nat) : Prop := ∀ (d k : Nat) (S : cS) (c w tt D a : Nat), d ≤ 11 → 16 * (n - qP β n k) + 12 < F → a ≤ 20 → k ≤ k1 → rE own0 m u S0 c w tt S → sI S 6115 = nI k → sI S 6116 = nI 0 → RQ β n k c w tt Mx Mw → 20 + 16 * (13 - d) - 6 ≤ D → ∃ S1 v, (∀ lv, LX5 lv d 11 1 a → Bod D 324 26 lv [] S (some (.int v)) S1) ∧ xV β n V P own0 m u S0 Mx Mw S c w tt k (px (qK β n) F 14 (d + 1) k a 0) v S1
theorem XL_s (hX : cX β n V P m S0 k1 Mx Mw) (hA : XA β n V P own0 m u S0 k1 Mx Mw F) (hL : XL β n V P own0 m u S0 k1 Mx Mw F) : XL β n V P own0 m u S0 k1 Mx Mw (F + 1) := by
  intro d k S c w tt D a b hb hd hm ham hk hE ha hf hR hD
  have ek2 : rkp 0 = 10 := rfl
  obtain ⟨D', rfl⟩ : ∃ D', D = D' + 8 := ⟨D - 8, by omega⟩
  have hkM := hX.2.1
  have hmM := hX.2.2.2.2.1
  have hMx := hX.2.2.2.2.2.1
  have h86 := hX.2.2.2.2.2.2.2.1
  have hb6 : 6 ≤ b ∧ b ≤ 29 := by omega
  have hm40 : most b ≤ 40 := (most_le b).2
  have hen : rsg b < 20000 := rsg_lt _ (by omega)
  show ∃ S1 v, _ ∧ xV β n V P own0 m u S0 Mx Mw S c w tt k (px13 (qK β n) (px (qK β n) F) (d + 1) k a b) v S1
  unfold px13
  have yb := xsg_at (d := D' + 7) (K := b) hX hE ha hk hb6
  by_cases h00 : a = 0 ∧ qK β n k = b
  · rw [if_pos h00]
    have t1 := rE_wI (i := 6115) (x := nI (k + 1)) hE (Or.inl rfl)
    refine ⟨_, nI 0, fun lv hl => rl5_e0 hl.1.1 hl.1.2 hl.2.1 hl.2.2.1 hl.2.2.2.1 hl.2.2.2.2 (by omega) hen hm40 (by omega) (by omega) (yb.1 h00.2) h00.1 (fun lv1 h0 h1 h2 h3 h4 h5 => ?_), xV_some (x := (k + 1, 0, [])) rfl rfl (Nat.zero_le _) (eOR_x t1.2 (eOR_z t1.1 (rIe _ _ _) ((rIn _ _ (by decide)).trans hf)))⟩
    rw [h00.1] at h5
    exact rl5_end h0 h1 h2 h3 h4 h5 (by omega) hen hm40 (by omega) (by omega) ha (by omega)
  rw [if_neg h00]
  have h39 : ∀ {v : Option Value} {Sf : cS}, (∀ lv, LX5 lv d b 0 a → Bod (D' + 8) 324 39 lv [] S v Sf) → ∀ lv, LX5 lv d b 0 a → Bod (D' + 8) 324 26 lv [] S v Sf := fun {v Sf} hB lv hl => by
    by_cases hkb : qK β n k = b
    · exact rl5_e1 hl.1.1 hl.1.2 hl.2.1 hl.2.2.1 hl.2.2.2.1 hl.2.2.2.2 (by omega) hen hm40 (by omega) (by omega) (yb.1 hkb) (Nat.pos_of_ne_zero (fun e => h00 ⟨e, hkb⟩)) (fun lv1 h0 h1 h2 h3 h4 h5 => hB lv1 ⟨⟨h0, h1⟩, h2, h3, h4, h5⟩)
    · exact rl5_e2 hl.1.1 hl.1.2 hl.2.1 hl.2.2.1 hl.2.2.2.1 hl.2.2.2.2 (by omega) hen hm40 (by omega) (by omega) (yb.2 hkb) (fun lv1 h0 h1 h2 h3 h4 h5 => hB lv1 ⟨⟨h0, h1⟩, h2, h3, h4, h5⟩)
  by_cases hmo : most b ≤ a
  · rw [if_pos hmo]
    obtain ⟨S1, b1, b2⟩ := xbd_at (d := D' + 6) hX hE ha hf hk hR
    exact ⟨S1, _, h39 (fun lv hl => rl5_many hl.1.1 hl.1.2 hl.2.1 hl.2.2.1 hl.2.2.2.1 hl.2.2.2.2 (by omega) hen hm40 (by omega) (by omega) (by omega) b1), xV_none rfl rfl b2⟩
  rw [if_neg hmo]
  have hne : a ≠ most b := by omega
  obtain ⟨S1, v, p1, p2⟩ := hA 0 (by decide) (d + 1) k S c w tt (D' + 8) (by omega) (by omega) hk hE ha hf hR (by omega)
  replace p1 : Ans (D' + 8) 306 [.ref 61, .int (nI (d + 1))] S (some (.int v)) S1 := p1
  cases hr : px (qK β n) F 0 (d + 1) k 0 0 with
  | none =>
    obtain ⟨hv, hb⟩ := p2.1 hr
    rw [hv] at p1
    exact ⟨S1, _, h39 (fun lv hl => rl5_v0 hl.1.1 hl.1.2 hl.2.1 hl.2.2.1 hl.2.2.2.1 hl.2.2.2.2 (by omega) hen hm40 (by omega) (by omega) hne (by omega) p1), xV_none rfl rfl hb⟩
  | some r1 =>
    obtain ⟨hv, hok⟩ := p2.2 r1 hr
    rw [hv] at p1
    obtain ⟨e1, e2, e3, e4, e5, e6, e7⟩ := xpm_at hX (Or.inl (by decide)) hk hR hr
    have e8 := e7 (by decide)
    obtain ⟨s1, s2, s3⟩ := eOR_st hok
    replace hok := eOR_0 hok
    have hgo : ∀ {v : Option Value} {Sf : cS}, (∀ lv, LX5 lv d b 0 a → Bod (D' + 8) 324 88 lv [] S1 v Sf) → ∀ lv, LX5 lv d b 0 a → Bod (D' + 8) 324 26 lv [] S v Sf := fun {v Sf} hB => h39 (fun lv hl => rl5_v1 hl.1.1 hl.1.2 hl.2.1 hl.2.2.1 hl.2.2.2.1 hl.2.2.2.2 (by omega) hen hm40 (by omega) (by omega) hne (by omega) rfl p1 (fun lv1 h0 h1 h2 h3 h4 h5 => hB lv1 ⟨⟨h0, h1⟩, h2, h3, h4, h5⟩))
    have hline := e5
    show ∃ S1 v, _ ∧ xV β n V P own0 m u S0 Mx Mw S c w tt k (if qK β n r1.1 = b then _ else if qK β n r1.1 = 12 then _ else none) v S1
    have yb2 := xsg_at (d := D' + 7) (K := b) hX s1 s2 e2 hb6
    obtain ⟨w3, w4⟩ := xtk_at (d := D' + 5) (K := 12) hX s1 s2 s3 e2 e6 (by omega)
    by_cases kb : qK β n r1.1 = b
    · rw [if_pos kb]
      obtain ⟨i1, i2⟩ := rE_wI (i := 6115) (x := nI (r1.1 + 1)) s1 (Or.inl rfl)
      exact ⟨_, nI (a + 1), hgo (fun lv hl => rl5_n1 hl.1.1 hl.1.2 hl.2.1 hl.2.2.1 hl.2.2.2.1 hl.2.2.2.2 (by omega) hen hm40 (by omega) (by omega) (yb2.1 kb) (fun lv1 h0 h1 h2 h3 h4 h5 => rl5_end h0 h1 h2 h3 h4 h5 (by omega) hen hm40 (by omega) (by omega) s2 (by omega))), xV_some (x := (r1.1 + 1, a + 1, r1.2.2)) rfl rfl (by dsimp only; omega) (eOR_at hok)⟩
    rw [if_neg kb]
    by_cases k12 : qK β n r1.1 = 12
    · rw [if_pos k12]
      obtain ⟨j1, j2, j3, j4, j5, j6⟩ := xnx_at hX e2 (by omega) e6
      have i2 := eOR_at (x := r1.1 + 1) hok
      obtain ⟨x1, x2, x3⟩ := eOR_st i2
      obtain ⟨S5, v5, q1, q2⟩ := hL d (r1.1 + 1) _ _ _ _ (D' + 8) (a + 1) b hb hd (by omega) (by omega) j1 x1 x2 x3 j5 hD
      refine ⟨S5, v5, hgo (fun lv hl => rl5_n2 hl.1.1 hl.1.2 hl.2.1 hl.2.2.1 hl.2.2.2.1 hl.2.2.2.2 (by omega) hen hm40 (by omega) (by omega) (yb2.2 kb) (w3 k12) (fun lv1 h0 h1 h2 h3 h4 h5 => q1 lv1 ⟨⟨h0, h1⟩, h2, h3, h4, h5⟩)), ?_⟩
      cases hr5 : px (qK β n) F 13 (d + 1) (r1.1 + 1) (a + 1) b with
      | none =>
        obtain ⟨hv5, hb5⟩ := q2.1 hr5
        exact xV_none rfl hv5 (xB_eq hb5 (j2.trans hline))
      | some r5 =>
        obtain ⟨hv5, hm5, hok5⟩ := q2.2 r5 hr5
        have h9 := eOR_app i2 hok5
        exact xV_some (x := (r5.1, r5.2.1, r1.2.2 ++ r5.2.2)) rfl hv5 hm5 h9
    · rw [if_neg k12]
      obtain ⟨S5, b1, b2⟩ := w4 k12
      exact ⟨S5, _, hgo (fun lv hl => rl5_n0 hl.1.1 hl.1.2 hl.2.1 hl.2.2.1 hl.2.2.2.1 hl.2.2.2.2 (by omega) hen hm40 (by omega) (by omega) (yb2.2 kb) b1), xV_none rfl rfl (xB_eq b2 hline)⟩
theorem XQ_s (hX : cX β n V P m S0 k1 Mx Mw) (hA : XA β n V P own0 m u S0 k1 Mx Mw F) (hL : XQ β n V P own0 m u S0 k1 Mx Mw F) : XQ β n V P own0 m u S0 k1 Mx Mw (F + 1) := by
  intro d k S c w tt D a hd hm ham hk hE ha hf hR hD
  have ek2 : rkp 0 = 10 := rfl
  obtain ⟨D', rfl⟩ : ∃ D', D = D' + 8 := ⟨D - 8, by omega⟩
  have hkM := hX.2.1
  have hmM := hX.2.2.2.2.1
  have hMx := hX.2.2.2.2.2.1
  have h86 := hX.2.2.2.2.2.2.2.1
  have hb6 : 6 ≤ 11 ∧ 11 ≤ 29 := by omega
  have hm40 : 20 ≤ 40 := by omega
  have hen : rsg 11 < 20000 := rsg_lt _ (by omega)
  show ∃ S1 v, _ ∧ xV β n V P own0 m u S0 Mx Mw S c w tt k (px14 (qK β n) (px (qK β n) F) (d + 1) k a) v S1
  unfold px14
  have yb := xsg_at (d := D' + 7) (K := 11) hX hE ha hk hb6
  by_cases h00 : a = 0 ∧ qK β n k = 11
  · rw [if_pos h00]
    have t1 := rE_wI (i := 6115) (x := nI (k + 1)) hE (Or.inl rfl)
    refine ⟨_, nI 0, fun lv hl => rl5_e0 hl.1.1 hl.1.2 hl.2.1 hl.2.2.1 hl.2.2.2.1 hl.2.2.2.2 (by omega) hen hm40 (by omega) (by omega) (yb.1 h00.2) h00.1 (fun lv1 h0 h1 h2 h3 h4 h5 => ?_), xV_some (x := (k + 1, 0, [])) rfl rfl (Nat.zero_le _) (eOR_x t1.2 (eOR_z t1.1 (rIe _ _ _) ((rIn _ _ (by decide)).trans hf)))⟩
    rw [h00.1] at h5
    exact rl5_end h0 h1 h2 h3 h4 h5 (by omega) hen hm40 (by omega) (by omega) ha (by omega)
  rw [if_neg h00]
  have h39 : ∀ {v : Option Value} {Sf : cS}, (∀ lv, LX5 lv d 11 1 a → Bod (D' + 8) 324 39 lv [] S v Sf) → ∀ lv, LX5 lv d 11 1 a → Bod (D' + 8) 324 26 lv [] S v Sf := fun {v Sf} hB lv hl => by
    by_cases hkb : qK β n k = 11
    · exact rl5_e1 hl.1.1 hl.1.2 hl.2.1 hl.2.2.1 hl.2.2.2.1 hl.2.2.2.2 (by omega) hen hm40 (by omega) (by omega) (yb.1 hkb) (Nat.pos_of_ne_zero (fun e => h00 ⟨e, hkb⟩)) (fun lv1 h0 h1 h2 h3 h4 h5 => hB lv1 ⟨⟨h0, h1⟩, h2, h3, h4, h5⟩)
    · exact rl5_e2 hl.1.1 hl.1.2 hl.2.1 hl.2.2.1 hl.2.2.2.1 hl.2.2.2.2 (by omega) hen hm40 (by omega) (by omega) (yb.2 hkb) (fun lv1 h0 h1 h2 h3 h4 h5 => hB lv1 ⟨⟨h0, h1⟩, h2, h3, h4, h5⟩)
  by_cases hmo : 20 ≤ a
  · rw [if_pos hmo]
    obtain ⟨S1, b1, b2⟩ := xbd_at (d := D' + 6) hX hE ha hf hk hR
    exact ⟨S1, _, h39 (fun lv hl => rl5_many hl.1.1 hl.1.2 hl.2.1 hl.2.2.1 hl.2.2.2.1 hl.2.2.2.2 (by omega) hen hm40 (by omega) (by omega) (by show a = 20; omega) b1), xV_none rfl rfl b2⟩
  rw [if_neg hmo]
  have hne : a ≠ most 11 := by show a ≠ 20; omega
  obtain ⟨S1, v, p1, p2⟩ := hA 0 (by decide) (d + 1) k S c w tt (D' + 8) (by omega) (by omega) hk hE ha hf hR (by omega)
  replace p1 : Ans (D' + 8) 306 [.ref 61, .int (nI (d + 1))] S (some (.int v)) S1 := p1
  cases hr : px (qK β n) F 0 (d + 1) k 0 0 with
  | none =>
    obtain ⟨hv, hb⟩ := p2.1 hr
    rw [hv] at p1
    exact ⟨S1, _, h39 (fun lv hl => rl5_v0 hl.1.1 hl.1.2 hl.2.1 hl.2.2.1 hl.2.2.2.1 hl.2.2.2.2 (by omega) hen hm40 (by omega) (by omega) hne (by omega) p1), xV_none rfl rfl hb⟩
  | some r1 =>
    obtain ⟨hv, hok⟩ := p2.2 r1 hr
    rw [hv] at p1
    obtain ⟨e1, e2, e3, e4, e5, e6, e7⟩ := xpm_at hX (Or.inl (by decide)) hk hR hr
    have e8 := e7 (by decide)
    obtain ⟨s1, s2, s3⟩ := eOR_st hok
    replace hok := eOR_0 hok
    obtain ⟨w1, w2⟩ := xtk_at (d := D' + 5) (K := 13) hX s1 s2 s3 e2 e6 (by omega)
    show ∃ S1 v, _ ∧ xV β n V P own0 m u S0 Mx Mw S c w tt k (if qK β n r1.1 = 13 then _ else none) v S1
    by_cases k13 : qK β n r1.1 = 13
    rotate_left
    · rw [if_neg k13]
      obtain ⟨S2, b1, b2⟩ := w2 k13
      exact ⟨S2, _, h39 (fun lv hl => rl5_p0 hl.1.1 hl.1.2 hl.2.1 hl.2.2.1 hl.2.2.2.1 hl.2.2.2.2 (by omega) hen hm40 (by omega) (by omega) hne (by omega) rfl p1 b1), xV_none rfl rfl (xB_eq b2 e5)⟩
    rw [if_pos k13]
    obtain ⟨g1, g2, g3, g4, g5, g6⟩ := xnx_at hX e2 (by omega) e6
    obtain ⟨t1, t2⟩ := rE_wI (i := 6115) (x := nI (r1.1 + 1)) s1 (Or.inl rfl)
    obtain ⟨S2, v2, a1, a2⟩ := hA 0 (by decide) (d + 1) (r1.1 + 1) _ _ _ _ (D' + 8) (by omega) (by omega) g1 t1 (rIe _ _ _) ((rIn _ _ (by decide)).trans s3) g5 (by omega)
    replace a1 : Ans (D' + 8) 306 [.ref 61, .int (nI (d + 1))] (wI 6115 (nI (r1.1 + 1)) S1) (some (.int v2)) S2 := a1
    cases hr2 : px (qK β n) F 0 (d + 1) (r1.1 + 1) 0 0 with
    | none =>
      obtain ⟨hv2, hb2⟩ := a2.1 hr2
      rw [hv2] at a1
      exact ⟨S2, _, h39 (fun lv hl => rl5_p1 hl.1.1 hl.1.2 hl.2.1 hl.2.2.1 hl.2.2.2.1 hl.2.2.2.2 (by omega) hen hm40 (by omega) (by omega) hne (by omega) rfl p1 (w1 k13) a1), xV_none rfl rfl (xB_eq hb2 (g2.trans e5))⟩
    | some r3 =>
    obtain ⟨hv2, hok2⟩ := a2.2 r3 hr2
    rw [hv2] at a1
    obtain ⟨f1, f2, f3, f4, f5, f6, f7⟩ := xpm_at hX (Or.inl (by decide)) g1 g5 hr2
    have f8 := f7 (by decide)
    have hokA := eOR_app hok (eOR_x t2 (eOR_0 hok2))
    obtain ⟨u1, u2, u3⟩ := eOR_st hokA
    have hRA : RQ β n r3.1 (c + wR (qK β n) (r1.2.2 ++ r3.2.2)) (w + nwN (qK β n) (r1.2.2 ++ r3.2.2)) (tt + ntN (qK β n) (r1.2.2 ++ r3.2.2)) Mx Mw := by
      rw [wR_app, nwN_app, ntN_app, ← Nat.add_assoc, ← Nat.add_assoc, ← Nat.add_assoc]
      exact f6
    have hgo : ∀ {v : Option Value} {Sf : cS}, (∀ lv, LX5 lv d 11 1 a → Bod (D' + 8) 324 88 lv [] S2 v Sf) → ∀ lv, LX5 lv d 11 1 a → Bod (D' + 8) 324 26 lv [] S v Sf := fun {v Sf} hB => h39 (fun lv hl => rl5_p2 hl.1.1 hl.1.2 hl.2.1 hl.2.2.1 hl.2.2.2.1 hl.2.2.2.2 (by omega) hen hm40 (by omega) (by omega) hne (by omega) rfl p1 (w1 k13) a1 (fun lv1 h0 h1 h2 h3 h4 h5 => hB lv1 ⟨⟨h0, h1⟩, h2, h3, h4, h5⟩))
    have hline : qL β n r3.1 = qL β n k := f5.trans (g2.trans e5)
    show ∃ S1 v, _ ∧ xV β n V P own0 m u S0 Mx Mw S c w tt k (if qK β n r3.1 = 11 then _ else if qK β n r3.1 = 12 then _ else none) v S1
    have yb2 := xsg_at (d := D' + 7) (K := 11) hX u1 u2 f2 hb6
    obtain ⟨w3, w4⟩ := xtk_at (d := D' + 5) (K := 12) hX u1 u2 u3 f2 hRA (by omega)
    by_cases kb : qK β n r3.1 = 11
    · rw [if_pos kb]
      obtain ⟨i1, i2⟩ := rE_wI (i := 6115) (x := nI (r3.1 + 1)) u1 (Or.inl rfl)
      exact ⟨_, nI (a + 1), hgo (fun lv hl => rl5_n1 hl.1.1 hl.1.2 hl.2.1 hl.2.2.1 hl.2.2.2.1 hl.2.2.2.2 (by omega) hen hm40 (by omega) (by omega) (yb2.1 kb) (fun lv1 h0 h1 h2 h3 h4 h5 => rl5_end h0 h1 h2 h3 h4 h5 (by omega) hen hm40 (by omega) (by omega) u2 (by omega))), xV_some (x := (r3.1 + 1, a + 1, (r1.2.2 ++ r3.2.2))) rfl rfl (by dsimp only; omega) (eOR_at hokA)⟩
    rw [if_neg kb]
    by_cases k12 : qK β n r3.1 = 12
    · rw [if_pos k12]
      obtain ⟨j1, j2, j3, j4, j5, j6⟩ := xnx_at hX f2 (by omega) hRA
      have i2 := eOR_at (x := r3.1 + 1) hokA
      obtain ⟨x1, x2, x3⟩ := eOR_st i2
      obtain ⟨S5, v5, q1, q2⟩ := hL d (r3.1 + 1) _ _ _ _ (D' + 8) (a + 1) hd (by omega) (by omega) j1 x1 x2 x3 j5 hD
      refine ⟨S5, v5, hgo (fun lv hl => rl5_n2 hl.1.1 hl.1.2 hl.2.1 hl.2.2.1 hl.2.2.2.1 hl.2.2.2.2 (by omega) hen hm40 (by omega) (by omega) (yb2.2 kb) (w3 k12) (fun lv1 h0 h1 h2 h3 h4 h5 => q1 lv1 ⟨⟨h0, h1⟩, h2, h3, h4, h5⟩)), ?_⟩
      cases hr5 : px (qK β n) F 14 (d + 1) (r3.1 + 1) (a + 1) 0 with
      | none =>
        obtain ⟨hv5, hb5⟩ := q2.1 hr5
        exact xV_none rfl hv5 (xB_eq hb5 (j2.trans hline))
      | some r5 =>
        obtain ⟨hv5, hm5, hok5⟩ := q2.2 r5 hr5
        have h9 := eOR_app i2 hok5
        rw [List.append_assoc] at h9
        exact xV_some (x := (r5.1, r5.2.1, r1.2.2 ++ (r3.2.2 ++ r5.2.2))) rfl hv5 hm5 h9
    · rw [if_neg k12]
      obtain ⟨S5, b1, b2⟩ := w4 k12
      exact ⟨S5, _, hgo (fun lv hl => rl5_n0 hl.1.1 hl.1.2 hl.2.1 hl.2.2.1 hl.2.2.2.1 hl.2.2.2.2 (by omega) hen hm40 (by omega) (by omega) (yb2.2 kb) b1), xV_none rfl rfl (xB_eq b2 hline)⟩
theorem XLM_s (hX : cX β n V P m S0 k1 Mx Mw) (hL : XL β n V P own0 m u S0 k1 Mx Mw F) {d k c w tt D b : Nat} {S : cS} (hb : b = 7 ∨ b = 9) (hd : d ≤ 12) (hm : 16 * (n - qP β n k) < F + 4) (h3 : 3 ≤ qK β n k) (hk : k ≤ k1) (hE : rE own0 m u S0 c w tt S) (ha : sI S 6115 = nI k) (hf : sI S 6116 = nI 0) (hR : RQ β n k c w tt Mx Mw) (hD : 20 + 16 * (13 - d) - 5 ≤ D) : ∃ S1 v, Ans D 324 [.ref 61, .int (nI d), .int (nI (rsg b)), .int (nI (most b)), .int (nI 0)] S (some (.int v)) S1 ∧ xV β n V P own0 m u S0 Mx Mw S c w tt k (if 12 ≤ d then none else px (qK β n) F 13 (d + 1) (k + 1) 0 b) v S1 := by
  obtain ⟨D', rfl⟩ : ∃ D', D = D' + 9 := ⟨D - 9, by omega⟩
  have hkM := hX.2.1
  have hm40 : most b ≤ 40 := (most_le _).2
  have hen : rsg b < 20000 := rsg_lt _ (by omega)
  by_cases hd12 : 12 ≤ d
  · rw [if_pos hd12]
    obtain ⟨S1, b1, b2⟩ := xbd_at (d := D' + 6) hX hE ha hf hk hR
    exact ⟨S1, _, rl5_deep (d := D') hd hen hm40 (by omega) (by omega) b1, xV_none rfl rfl b2⟩
  · rw [if_neg hd12]
    obtain ⟨g1, g2, g3, g4, g5, g6⟩ := xnx_at hX hk h3 hR
    obtain ⟨t1, t2⟩ := rE_wI (i := 6115) (x := nI (k + 1)) hE (Or.inl rfl)
    obtain ⟨S1, v, q1, q2⟩ := hL d (k + 1) _ c w tt (D' + 8) 0 b hb (by omega) (by omega) (Nat.zero_le _) g1 t1 (rIe _ _ _) ((rIn _ _ (by decide)).trans hf) g5 (by omega)
    exact ⟨S1, v, rl5_go (d := D') hd hen hm40 (by omega) (by omega) ha (by omega) (fun lv1 h0 h1 h2 h3 h4 h5 => q1 lv1 ⟨⟨h0, h1⟩, h2, h3, h4, h5⟩), ⟨fun hn => ⟨(q2.1 hn).1, xB_eq (q2.1 hn).2 g2⟩, fun x hx => ⟨(q2.2 x hx).1, (q2.2 x hx).2.1, eOR_x t2 (q2.2 x hx).2.2⟩⟩⟩
theorem XQM_s (hX : cX β n V P m S0 k1 Mx Mw) (hL : XQ β n V P own0 m u S0 k1 Mx Mw F) {d k c w tt D : Nat} {S : cS} (hd : d ≤ 12) (hm : 16 * (n - qP β n k) < F + 4) (h3 : 3 ≤ qK β n k) (hk : k ≤ k1) (hE : rE own0 m u S0 c w tt S) (ha : sI S 6115 = nI k) (hf : sI S 6116 = nI 0) (hR : RQ β n k c w tt Mx Mw) (hD : 20 + 16 * (13 - d) - 5 ≤ D) : ∃ S1 v, Ans D 324 [.ref 61, .int (nI d), .int (nI (rsg 11)), .int (nI (most 11)), .int (nI 1)] S (some (.int v)) S1 ∧ xV β n V P own0 m u S0 Mx Mw S c w tt k (if 12 ≤ d then none else px (qK β n) F 14 (d + 1) (k + 1) 0 0) v S1 := by
  obtain ⟨D', rfl⟩ : ∃ D', D = D' + 9 := ⟨D - 9, by omega⟩
  have hkM := hX.2.1
  have hm40 : most 11 ≤ 40 := (most_le _).2
  have hen : rsg 11 < 20000 := rsg_lt _ (by omega)
  by_cases hd12 : 12 ≤ d
  · rw [if_pos hd12]
    obtain ⟨S1, b1, b2⟩ := xbd_at (d := D' + 6) hX hE ha hf hk hR
    exact ⟨S1, _, rl5_deep (d := D') hd hen hm40 (by omega) (by omega) b1, xV_none rfl rfl b2⟩
  · rw [if_neg hd12]
    obtain ⟨g1, g2, g3, g4, g5, g6⟩ := xnx_at hX hk h3 hR
    obtain ⟨t1, t2⟩ := rE_wI (i := 6115) (x := nI (k + 1)) hE (Or.inl rfl)
    obtain ⟨S1, v, q1, q2⟩ := hL d (k + 1) _ c w tt (D' + 8) 0 (by omega) (by omega) (Nat.zero_le _) g1 t1 (rIe _ _ _) ((rIn _ _ (by decide)).trans hf) g5 (by omega)
    exact ⟨S1, v, rl5_go (d := D') hd hen hm40 (by omega) (by omega) ha (by omega) (fun lv1 h0 h1 h2 h3 h4 h5 => q1 lv1 ⟨⟨h0, h1⟩, h2, h3, h4, h5⟩), ⟨fun hn => ⟨(q2.1 hn).1, xB_eq (q2.1 hn).2 g2⟩, fun x hx => ⟨(q2.2 x hx).1, (q2.2 x hx).2.1, eOR_x t2 (q2.2 x hx).2.2⟩⟩⟩
end
