/-! THE RULES OF EXPR IN THE REFERENCE: what is behind a value; values; all of them -/
section
variable {β : Nat → Nat} {n : Nat} {V : Nat → Int32} {P : Int32 → Int32 × Int32} {own0 : Nat → Nat × Nat} {m u k1 Mx Mw F : Nat} {S0 : cS}
theorem eOR_wT {S S1 : cS} {c w t j g i : Nat} {os : List Op} {q : Prop} {x : Int32} (hi : i = 6131 ∨ i = 6132) (h : eOR β n V P own0 m u S0 S c w t j g os q S1) : eOR β n V P own0 m u S0 S c w t j 0 os False (wI i x S1) := by
  obtain ⟨h1, h2, h3, h4, h5, h6⟩ := h
  obtain ⟨r1, r2⟩ := rE_wI (i := i) (x := x) h1 (by omega)
  exact ⟨r1, (rIn _ _ (by omega)).trans h2, (rIn _ _ (by omega)).trans h3, lsR_mono r2 (Nat.le_refl _) (Nat.le_refl _) os c (Nat.le_refl _) h4, kR_trans h5 r2 (Nat.le_add_right _ _) (Nat.le_add_right _ _) (Nat.le_add_right _ _), fun x => x.elim⟩
theorem eOR_1g {d c w t j g0 g : Nat} {S S1 : cS} {o1 : List Op} {q1 : Prop} {o : Op} {x : Int32} (h : eOR β n V P own0 m u S0 S c w t j g0 o1 q1 S1) (hk : c + wR (qK β n) o1 < 2 ^ 16) (h86 : ∀ p t, p < 1500 → sQ S0 86 p = some t → t ≠ m) (hm : 108 ≤ m) (hl : lR (qK β n) o = 1) (hn : o.1 ≠ 16) (ho : ∀ S2 : cS, cw S2 m (c + wR (qK β n) o1) = x → oR β n V P S2 m (w + nwN (qK β n) o1) (t + ntN (qK β n) o1) (c + wR (qK β n) o1) o) (hg : sI S1 6131 = nI g) (hg2 : sI S1 6132 = nI (c + wR (qK β n) o1)) (htr : trl g = 1) : ∃ S2, Ans (d + 4) 322 [.ref 61, .int x] S1 none S2 ∧ eOR β n V P own0 m u S0 S c w t j g (o1 ++ [o]) True S2 := by
  obtain ⟨h1, h2, h3, h4, h5, h6⟩ := id h
  obtain ⟨S2, hA, r1, r2, r3, r4⟩ := rE_1 (d := d) h1 (by omega) h86 x
  have e1 : wR (qK β n) [o] = 1 := by show lR (qK β n) o + 0 = 1; rw [hl]
  have e2 : nwN (qK β n) [o] = 0 := by
    show nwO (qK β n) o + 0 = 0
    unfold nwO
    rw [if_neg (fun c => hn c.1)]
  have e3 : ntN (qK β n) [o] = 0 := by
    show ntO (qK β n) o + 0 = 0
    unfold ntO
    rw [if_neg (fun c => hn c.1)]
  refine ⟨S2, hA, eOR_app h ?_⟩
  unfold eOR
  rw [e1, e2, e3]
  exact ⟨r1, (r4 _ (by omega)).trans h2, (r4 _ (by omega)).trans h3, ⟨ho S2 r3, trivial⟩, r2, fun _ => ⟨(r4 _ (by omega)).trans hg, fun _ => (r4 _ (by omega)).trans (hg2.trans (congrArg nI (by omega)))⟩⟩
theorem eOR_2g {d c w t j g0 g : Nat} {S S1 : cS} {o1 : List Op} {q1 : Prop} {o : Op} {x y : Int32} (h : eOR β n V P own0 m u S0 S c w t j g0 o1 q1 S1) (hk : c + wR (qK β n) o1 < 2 ^ 16) (h86 : ∀ p t, p < 1500 → sQ S0 86 p = some t → t ≠ m) (hm : 108 ≤ m) (hl : lR (qK β n) o = 2) (hn : o.1 ≠ 16) (ho : ∀ S2 : cS, cw S2 m (c + wR (qK β n) o1) = x → cw S2 m (c + wR (qK β n) o1 + 1) = y → oR β n V P S2 m (w + nwN (qK β n) o1) (t + ntN (qK β n) o1) (c + wR (qK β n) o1) o) (hg : sI S1 6131 = nI g) (hg2 : sI S1 6132 = nI (c + wR (qK β n) o1)) (htr : trl g = 2) : ∃ S2, Ans (d + 4) 302 [.ref 61, .int x, .int y] S1 none S2 ∧ eOR β n V P own0 m u S0 S c w t j g (o1 ++ [o]) True S2 := by
  obtain ⟨h1, h2, h3, h4, h5, h6⟩ := id h
  obtain ⟨S2, hA, r1, r2, r3, r4, r5⟩ := rE_2 (d := d) h1 (by omega) h86 x y
  have e1 : wR (qK β n) [o] = 2 := by show lR (qK β n) o + 0 = 2; rw [hl]
  have e2 : nwN (qK β n) [o] = 0 := by
    show nwO (qK β n) o + 0 = 0
    unfold nwO
    rw [if_neg (fun c => hn c.1)]
  have e3 : ntN (qK β n) [o] = 0 := by
    show ntO (qK β n) o + 0 = 0
    unfold ntO
    rw [if_neg (fun c => hn c.1)]
  refine ⟨S2, hA, eOR_app h ?_⟩
  unfold eOR
  rw [e1, e2, e3]
  exact ⟨r1, (r5 _ (by omega)).trans h2, (r5 _ (by omega)).trans h3, ⟨ho S2 r3 r4, trivial⟩, r2, fun _ => ⟨(r5 _ (by omega)).trans hg, fun _ => (r5 _ (by omega)).trans (hg2.trans (congrArg nI (by omega)))⟩⟩
theorem w_snoc {K : Nat → Nat} {l : List Op} {o : Op} {y : Nat} (hl : lR K o = y) (hn : o.1 ≠ 16) : wR K (l ++ [o]) = wR K l + y ∧ nwN K (l ++ [o]) = nwN K l ∧ ntN K (l ++ [o]) = ntN K l := by
  refine ⟨?_, ?_, ?_⟩
  · rw [wR_app]; show _ + (lR _ _ + 0) = _; rw [hl]; rfl
  · rw [nwN_app]; show _ + (nwO _ _ + 0) = _; unfold nwO; rw [if_neg (fun h => hn h.1)]; rfl
  · rw [ntN_app]; show _ + (ntO _ _ + 0) = _; unfold ntO; rw [if_neg (fun h => hn h.1)]; rfl
theorem XJ12_s (hX : cX β n V P m S0 k1 Mx Mw) (hA : XA β n V P own0 m u S0 k1 Mx Mw F) (hL : XL β n V P own0 m u S0 k1 Mx Mw F) (hJ : XJ β n V P own0 m u S0 k1 Mx Mw F 12 315 2 (fun j => qK β n j ≠ 6)) : XJ β n V P own0 m u S0 k1 Mx Mw (F + 1) 12 315 2 (fun j => qK β n j ≠ 6) := by
  intro d k S c w tt D g hd hm hk hE ha hf hR hg hD
  have ek2 : rkp 0 = 10 := rfl
  obtain ⟨D', rfl⟩ : ∃ D', D = D' + 8 := ⟨D - 8, by omega⟩
  have hkM := hX.2.1
  have hmM := hX.2.2.2.2.1
  have hMx := hX.2.2.2.2.2.1
  have h86 := hX.2.2.2.2.2.2.2.1
  obtain ⟨r1', r2', r3'⟩ := id hR
  show ∃ S1 v, _ ∧ xO β n V P own0 m u S0 Mx Mw S c w tt k _ (px12 (qK β n) (px (qK β n) F) d k g) v S1
  unfold px12
  have y6 := xsg_at (d := D' + 7) (K := 6) hX hE ha hk (by omega)
  have y8 := xsg_at (d := D' + 7) (K := 8) hX hE ha hk (by omega)
  have y14 := xsg_at (d := D' + 7) (K := 14) hX hE ha hk (by omega)
  by_cases k6 : qK β n k = 6
  · rw [if_pos k6]
    obtain ⟨g1, g2, g3, g4, g5, g6⟩ := xnx_at hX hk (by omega) hR
    obtain ⟨S1, v, p1, p2⟩ := XLM_s (D := D' + 8) (b := 7) hX hL (Or.inl rfl) hd (by omega) (by omega) hk hE ha hf hR (by omega)
    replace p1 : Ans (D' + 8) 324 [.ref 61, .int (nI d), .int (nI 41), .int (nI 8), .int (nI 0)] S (some (.int v)) S1 := p1
    by_cases hd12 : 12 ≤ d
    · rw [if_pos hd12] at p2 ⊢
      obtain ⟨hv, hb⟩ := p2.1 rfl
      rw [hv] at p1
      exact ⟨S1, nI 0, fun lv hl => re_call_no hl.1 hl.2 hd (y6.1 k6) p1, xO_none rfl rfl hb⟩
    rw [if_neg hd12] at p2 ⊢
    cases hr : px (qK β n) F 13 (d + 1) (k + 1) 0 7 with
    | none =>
      obtain ⟨hv, hb⟩ := p2.1 hr
      rw [hv] at p1
      exact ⟨S1, nI 0, fun lv hl => re_call_no hl.1 hl.2 hd (y6.1 k6) p1, xO_none rfl rfl hb⟩
    | some r1 =>
      obtain ⟨hv, hm1, hok⟩ := p2.2 r1 hr
      rw [hv] at p1
      obtain ⟨e1, e2, e3, e4, e5, e6, e7⟩ := xpm_at hX (Or.inr (Or.inr (Or.inr ⟨rfl, by omega⟩))) g1 g6 hr
      obtain ⟨z1, z2, z3⟩ := e6
      obtain ⟨S2, i1, i2⟩ := eOR_2 (d := D' + 4) (o := (51, [r1.2.1], 0, 0)) (x := nI 17) (y := nI r1.2.1) hok (by omega) h86 hmM rfl (by show (51 : Nat) ≠ 16; decide) (fun S2 c1 c2 => oR_2 (by omega) c1 c2)
      have i3 := eOR_t0 i2
      obtain ⟨s1, s2, s3⟩ := eOR_st i3
      obtain ⟨w1, w2, w3⟩ := w_snoc (K := qK β n) (l := r1.2.2) (o := (51, [r1.2.1], 0, 0)) (y := 2) rfl (by show (51 : Nat) ≠ 16; decide)
      have hq1 := (px_pm (Or.inr (Or.inr (Or.inr ⟨rfl, by omega⟩))) hr).2.2.2.1
      have hgap := (px_pm (Or.inr (Or.inr (Or.inr ⟨rfl, by omega⟩))) hr)
      have h13 := (px_G (qK β n) F).2.2.2.1 _ _ _ _ _ (by decide) hr
      obtain ⟨m1, m2, m3, m4, m5⟩ := h13
      obtain ⟨n1, n2, n3⟩ := px_w hr
      obtain ⟨S5, v2, q1, q2⟩ := hJ d r1.1 _ _ _ _ (D' + 8) 0 hd (by omega) e2 s1 s2 s3 ⟨by omega, by omega, by omega⟩ (fun _ => i3.2.2.2.2.2 trivial) hD
      refine ⟨S5, v2, fun lv hl => re_call hl.1 hl.2 hd (y6.1 k6) (by omega) p1 i1 (fun lv1 h0 h1 => q1 lv1 ⟨h0, h1⟩), ?_⟩
      cases hr2 : px (qK β n) F 12 d r1.1 0 0 with
      | none =>
        obtain ⟨hv2, hb2⟩ := q2.1 hr2
        exact xO_none (by show (px _ F 12 d r1.1 0 0).bind _ = none; rw [hr2]; rfl) hv2 (xB_eq hb2 (e5.trans g2))
      | some r2 =>
        obtain ⟨hv2, hok2⟩ := q2.2 r2 hr2
        have h9 := eOR_app i3 hok2
        rw [List.append_assoc] at h9
        exact xO_some (x := (r2.1, r2.2.1, r1.2.2 ++ (51, [r1.2.1], 0, 0) :: r2.2.2)) (by show (px _ F 12 d r1.1 0 0).bind _ = _; rw [hr2]; rfl) hv2 h9
  rw [if_neg k6]
  by_cases k8 : qK β n k = 8
  · rw [if_pos k8]
    by_cases hd12 : 12 ≤ d
    · rw [if_pos hd12]
      obtain ⟨S1, b1, b2⟩ := xbd_at (d := D' + 6) hX hE ha hf hk hR
      exact ⟨S1, nI 0, fun lv hl => re_ix_deep hl.1 hl.2 hd (y6.2 k6) (y8.1 k8) (by omega) b1, xO_none rfl rfl b2⟩
    rw [if_neg hd12]
    obtain ⟨g1, g2, g3, g4, g5, g6⟩ := xnx_at hX hk (by omega) hR
    obtain ⟨t1, t2⟩ := rE_wI (i := 6115) (x := nI (k + 1)) hE (Or.inl rfl)
    obtain ⟨S1, v, p1, p2⟩ := hA 0 (by decide) (d + 1) (k + 1) _ c w tt (D' + 8) (by omega) (by omega) g1 t1 (rIe _ _ _) ((rIn _ _ (by decide)).trans hf) g5 (by omega)
    replace p1 : Ans (D' + 8) 306 [.ref 61, .int (nI (d + 1))] (wI 6115 (nI (k + 1)) S) (some (.int v)) S1 := p1
    cases hr : px (qK β n) F 0 (d + 1) (k + 1) 0 0 with
    | none =>
      obtain ⟨hv, hb⟩ := p2.1 hr
      rw [hv] at p1
      exact ⟨S1, nI 0, fun lv hl => re_ix_bad hl.1 hl.2 hd (y6.2 k6) (y8.1 k8) (by omega) ha (by omega) p1, xO_none rfl rfl (xB_eq hb g2)⟩
    | some r1 =>
      obtain ⟨hv, hok⟩ := p2.2 r1 hr
      rw [hv] at p1
      obtain ⟨e1, e2, e3, e4, e5, e6, e7⟩ := xpm_at hX (Or.inl (by decide)) g1 g5 hr
      have e8 := e7 (by decide)
      obtain ⟨s1, s2, s3⟩ := eOR_st hok
      obtain ⟨w1, w2⟩ := xtk_at (d := D' + 5) (K := 9) hX s1 s2 s3 e2 e6 (by omega)
      show ∃ S1 v, _ ∧ xO β n V P own0 m u S0 Mx Mw S c w tt k _ (if qK β n r1.1 = 9 then _ else none) v S1
      by_cases k9 : qK β n r1.1 = 9
      · rw [if_pos k9]
        obtain ⟨f1, f2, f3, f4, f5, f6⟩ := xnx_at hX e2 (by omega) e6
        obtain ⟨z1, z2, z3⟩ := f6
        have hokA := eOR_at (x := r1.1 + 1) (eOR_x t2 hok)
        obtain ⟨u1, u2, u3⟩ := eOR_st hokA
        obtain ⟨y1, y2, y3, y4, y5⟩ := rE_m u1
        have hokB := eOR_wT (i := 6132) (x := nI (c + wR (qK β n) r1.2.2)) (Or.inr rfl) (eOR_wT (i := 6131) (x := nI 2) (Or.inl rfl) hokA)
        obtain ⟨S3, i1, i2⟩ := eOR_1g (d := D' + 4) (o := (39, [], 0, 0)) (x := nI 15) (g := 2) hokB (by omega) h86 hmM rfl (by decide) (fun S2 c1 => oR_1 (by omega) c1) ((rIn _ _ (by decide)).trans (rIe _ _ _)) (rIe _ _ _) rfl
        obtain ⟨x1, x2, x3⟩ := eOR_st i2
        obtain ⟨l1, l2, l3⟩ := w_snoc (K := qK β n) (l := r1.2.2) (o := (39, [], 0, 0)) (y := 1) rfl (by decide)
        obtain ⟨S5, v2, q1, q2⟩ := hJ d (r1.1 + 1) _ _ _ _ (D' + 8) 2 hd (by omega) f1 x1 x2 x3 ⟨by omega, by omega, by omega⟩ (fun _ => i2.2.2.2.2.2 trivial) hD
        refine ⟨S5, v2, fun lv hl => re_ix_T hl.1 hl.2 hd (y6.2 k6) (y8.1 k8) (by omega) ha (by omega) p1 (w1 k9) y1 y2 y3 y4 (by omega) (by omega) i1 (fun lv1 h0 h1 => q1 lv1 ⟨h0, h1⟩), ?_⟩
        cases hr2 : px (qK β n) F 12 d (r1.1 + 1) 2 0 with
        | none =>
          obtain ⟨hv2, hb2⟩ := q2.1 hr2
          exact xO_none rfl hv2 (xB_eq hb2 (f2.trans (e5.trans g2)))
        | some r2 =>
          obtain ⟨hv2, hok2⟩ := q2.2 r2 hr2
          have h9 := eOR_app i2 hok2
          rw [List.append_assoc] at h9
          exact xO_some (x := (r2.1, r2.2.1, r1.2.2 ++ (39, [], 0, 0) :: r2.2.2)) rfl hv2 h9
      · rw [if_neg k9]
        obtain ⟨S2, b1, b2⟩ := w2 k9
        exact ⟨S2, nI 0, fun lv hl => re_ix_no hl.1 hl.2 hd (y6.2 k6) (y8.1 k8) (by omega) ha (by omega) p1 b1, xO_none rfl rfl (xB_eq b2 (e5.trans g2))⟩
  rw [if_neg k8]
  by_cases k14 : qK β n k = 14
  · rw [if_pos k14]
    obtain ⟨g1, g2, g3, g4, g5, g6⟩ := xnx_at hX hk (by omega) hR
    obtain ⟨t1, t2⟩ := rE_wI (i := 6115) (x := nI (k + 1)) hE (Or.inl rfl)
    obtain ⟨x1, x2, x3, x4, x5⟩ := cX_tk hX g1
    have hA8 := rE_A hE
    have hkd : sA S 67 (k + 1) = nI (rkd (qK β n (k + 1))) := by rw [hA8.1]; exact x5.1
    have hkM2 := rkd_lt (qK β n (k + 1))
    by_cases k3 : qK β n (k + 1) = 3
    · rw [if_pos k3]
      obtain ⟨vl, l1, l2, l3⟩ := x5.2.2.2.1 k3
      have hvl : sA S 68 (k + 1) = nI vl := by rw [hA8.2.1]; exact l2
      obtain ⟨f1, f2, f3, f4, f5, f6⟩ := xnx_at hX g1 (by omega) g5
      have e22 : k + 1 + 1 = k + 2 := rfl
      rw [e22] at f1 f2 f3 f4 f5 f6
      obtain ⟨z1, z2, z3⟩ := f6
      obtain ⟨y1, y2, y3, y4, y5⟩ := rE_m hE
      have hV : V (k + 1) = nI vl := (hX.2.2.2.2.2.2.2.2.2.1 _).trans l2
      have hok0 : eOR β n V P own0 m u S0 S c w tt (k + 1) 0 [] False (wI 6115 (nI (k + 1)) S) := eOR_x t2 (eOR_z t1 (rIe _ _ _) ((rIn _ _ (by decide)).trans hf))
      have hokB := eOR_wT (i := 6132) (x := nI c) (Or.inr rfl) (eOR_wT (i := 6131) (x := nI 3) (Or.inl rfl) hok0)
      obtain ⟨S3, i1, i2⟩ := eOR_2g (d := D' + 4) (o := (44, [k + 1], 0, 0)) (x := nI 16) (y := nI vl) (g := 3) hokB (by show c + 0 < _; omega) h86 hmM rfl (by show (44 : Nat) ≠ 16; decide) (fun S2 c1 c2 => oR_A c1 (by rw [hV]; exact c2)) ((rIn _ _ (by decide)).trans (rIe _ _ _)) (rIe _ _ _) rfl
      rw [List.nil_append] at i2
      have i3 := eOR_at (x := k + 2) i2
      obtain ⟨u1, u2, u3⟩ := eOR_st i3
      have w1 : wR (qK β n) [(44, [k + 1], 0, 0)] = 2 := rfl
      have w2 : nwN (qK β n) [(44, [k + 1], 0, 0)] = 0 := rfl
      have w3 : ntN (qK β n) [(44, [k + 1], 0, 0)] = 0 := rfl
      obtain ⟨S5, v2, q1, q2⟩ := hJ d (k + 2) _ _ _ _ (D' + 8) 3 hd (by omega) f1 u1 u2 u3 ⟨by omega, by omega, by omega⟩ (fun _ => i3.2.2.2.2.2 trivial) hD
      refine ⟨S5, v2, fun lv hl => re_at_T hl.1 hl.2 hd (y6.2 k6) (y8.2 k8) (y14.1 k14) ha (by omega) hkd (rkd_1.mpr k3) hvl (by omega) (by omega) (by omega) y1 y2 y3 y4 (by omega) i1 i2.2.1 (fun lv1 h0 h1 => q1 lv1 ⟨h0, h1⟩), ?_⟩
      cases hr2 : px (qK β n) F 12 d (k + 2) 3 0 with
      | none =>
        obtain ⟨hv2, hb2⟩ := q2.1 hr2
        exact xO_none rfl hv2 (xB_eq hb2 (f2.trans g2))
      | some r2 =>
        obtain ⟨hv2, hok2⟩ := q2.2 r2 hr2
        exact xO_some (x := (r2.1, r2.2.1, (44, [k + 1], 0, 0) :: r2.2.2)) rfl hv2 (eOR_app i3 hok2)
    · rw [if_neg k3]
      obtain ⟨S1, b1, b2⟩ := xbd_at (d := D' + 6) hX t1 (rIe _ _ _) ((rIn _ _ (by decide)).trans hf) g1 g5
      exact ⟨S1, nI 0, fun lv hl => re_at_bad hl.1 hl.2 hd (y6.2 k6) (y8.2 k8) (y14.1 k14) ha (by omega) hkd (by omega) (fun e => k3 (rkd_1.mp e)) b1, xO_none rfl rfl (xB_eq b2 g2)⟩
  rw [if_neg k14]
  exact ⟨S, nI 1, fun lv hl => re_post_end hl.1 hl.2 hd (y6.2 k6) (y8.2 k8) (y14.2 k14), xO_some (x := (k, g, [])) rfl rfl (eOR_nil hE ha hf (fun _ => hg k6))⟩
theorem XA15_s (hX : cX β n V P m S0 k1 Mx Mw) (hA : XA β n V P own0 m u S0 k1 Mx Mw F) (hL : XL β n V P own0 m u S0 k1 Mx Mw F) (hQ : XQ β n V P own0 m u S0 k1 Mx Mw F) : XA1 β n V P own0 m u S0 k1 Mx Mw (F + 1) 15 := by
  intro d k S c w tt D hd hm hk hE ha hf hR hD
  have ek : rkp 15 = 2 := rfl
  have ek2 : rkp 0 = 10 := rfl
  obtain ⟨D', rfl⟩ : ∃ D', D = D' + 9 := ⟨D - 9, by omega⟩
  have hkM := hX.2.1
  have hmM := hX.2.2.2.2.1
  have hMx := hX.2.2.2.2.2.1
  have h86 := hX.2.2.2.2.2.2.2.1
  obtain ⟨r1', r2', r3'⟩ := id hR
  obtain ⟨t1, t2⟩ := rE_wI (i := 6131) (x := nI 0) hE (by omega)
  obtain ⟨x1, x2, x3, x4, x5⟩ := cX_tk hX hk
  have hA8 := rE_A hE
  have hAT := rE_A t1
  have hkd : sA S 67 k = nI (rkd (qK β n k)) := by rw [hA8.1]; exact x5.1
  have haT : sI (wI 6131 (nI 0) S) 6115 = nI k := (rIn _ _ (by decide)).trans ha
  have hfT : sI (wI 6131 (nI 0) S) 6116 = nI 0 := (rIn _ _ (by decide)).trans hf
  obtain ⟨y1, y2, y3, y4, y5⟩ := rE_m hE
  obtain ⟨y1T, y2T, y3T, y4T, y5T⟩ := rE_m t1
  have b299 : ∃ S1, Ans (D' + 8) 299 [.ref 61] (wI 6131 (nI 0) S) (some (.int (nI 0))) S1 ∧ xB β n own0 m u S0 Mx Mw k S1 := xbd_at (d := D' + 6) hX t1 haT hfT hk hR
  show ∃ S1 v, Ans (D' + 9) 316 [.ref 61, .int (nI d)] S (some (.int v)) S1 ∧ xO β n V P own0 m u S0 Mx Mw S c w tt k _ (px15 (qK β n) (px (qK β n) F) d k) v S1
  unfold px15
  by_cases k3 : qK β n k = 3
  · rw [if_pos k3]
    obtain ⟨g1, g2, g3, g4, g5, g6⟩ := xnx_at hX hk (by omega) hR
    obtain ⟨r, l1, l2, l3⟩ := x5.2.2.2.1 k3
    have hvl : sA S 68 k = nI r := by rw [hA8.2.1]; exact l2
    have hV : V k = nI r := (hX.2.2.2.2.2.2.2.2.2.1 _).trans l2
    rw [k3] at hkd
    obtain ⟨v1, v2, v3, v4, v5⟩ := cX_tk hX g1
    have hk2 : sA S 67 (k + 1) = nI (rkd (qK β n (k + 1))) := by rw [hA8.1]; exact v5.1
    have hkM2 := rkd_lt (qK β n (k + 1))
    obtain ⟨F0, a, en, oa, o, hsc, hP⟩ := hX.2.2.2.2.2.2.2.2.2.2
    obtain ⟨u1, u2⟩ := rE_wI (i := 6131) (x := nI 1) t1 (by omega)
    obtain ⟨w1, w2⟩ := rE_wI (i := 6132) (x := nI c) u1 (by omega)
    have hname : ∀ tg : Nat, (tg = 18 ∨ tg = 21) → ∃ S1, Ans (D' + 8) 317 [.ref 61, .int (nI (if tg = 21 then 5 else 4)), .int (nI r)] (wI 6132 (nI c) (wI 6131 (nI 1) (wI 6131 (nI 0) S))) none S1 ∧ sI S1 6115 = nI k ∧ eOR β n V P own0 m u S0 S c w tt (k + 1) 1 [(tg, [k], 0, 0)] True (wI 6115 (nI (k + 1)) S1) := fun tg htg => by
      obtain ⟨S1, h1, h2, h3, h4, h5, h6, h7, h8⟩ := rE_name (d := D' + 3) (r := r) w1 (by omega) h86 (by omega) hsc (nI (if tg = 21 then 5 else 4))
      have a1 : sI S1 6115 = nI k := (h8 _ (by omega)).trans ((rIn _ _ (by decide)).trans ((rIn _ _ (by decide)).trans haT))
      refine ⟨S1, h1, a1, ?_⟩
      have e1 : wR (qK β n) [(tg, [k], 0, 0)] = 4 := by show lR (qK β n) _ + 0 = 4; rw [lR_4 (by dsimp only; omega)]
      have e2 : nwN (qK β n) [(tg, [k], 0, 0)] = 0 := by
        show nwO (qK β n) _ + 0 = 0
        unfold nwO
        rw [if_neg (fun c => by have h2 := c.1; dsimp only at h2; omega)]
      have e3 : ntN (qK β n) [(tg, [k], 0, 0)] = 0 := by
        show ntO (qK β n) _ + 0 = 0
        unfold ntO
        rw [if_neg (fun c => by have h2 := c.1; dsimp only at h2; omega)]
      have hfin : eOR β n V P own0 m u S0 S c w tt k 1 [(tg, [k], 0, 0)] True S1 := by
        unfold eOR
        rw [e1, e2, e3]
        refine ⟨h2, a1, (h8 _ (by omega)).trans ((rIn _ _ (by decide)).trans ((rIn _ _ (by decide)).trans hfT)), ⟨oR_N htg h4 (by rw [hV]; exact h5) (by rw [hV, hP]; exact h6) (by rw [hV, hP]; exact h7), trivial⟩, kR_trans t2 (kR_trans u2 (kR_trans w2 h3 (Nat.le_refl _) (Nat.le_refl _) (Nat.le_refl _)) (Nat.le_refl _) (Nat.le_refl _) (Nat.le_refl _)) (Nat.le_refl _) (Nat.le_refl _) (Nat.le_refl _), fun _ => ⟨(h8 _ (by omega)).trans ((rIn _ _ (by decide)).trans (rIe _ _ _)), fun _ => (h8 _ (by omega)).trans ((rIe _ _ _).trans (congrArg nI (by show c = c + 4 - 4; omega)))⟩⟩
      exact eOR_at (x := k + 1) hfin
    by_cases k6 : qK β n (k + 1) = 6
    · rw [if_pos k6, if_pos k6]
      obtain ⟨S1, h1, h2, h3⟩ := hname 21 (Or.inr rfl)
      have hv2 : sA S 68 (k + 1) = nI (rsg (qK β n (k + 1))) := by rw [hA8.2.1]; exact v5.2.2.2.2.2.1 (by omega)
      rw [k6] at hk2 hv2
      exact ⟨_, nI 1, ra_name3 (d := D') hd ha (by omega) hkd hvl (by omega) (by omega) (by omega) y1 y2 y3 y4 (by omega) hk2 (by decide) rfl hv2 (by decide) rfl h1 h2, xO_some (x := (k + 1, 0, [(21, [k], 0, 0)])) rfl rfl ⟨h3.1, h3.2.1, h3.2.2.1, h3.2.2.2.1, h3.2.2.2.2.1, fun hq => absurd k6 (hq rfl)⟩⟩
    · rw [if_neg k6, if_neg k6]
      obtain ⟨S1, h1, h2, h3⟩ := hname 18 (Or.inl rfl)
      refine ⟨_, nI 1, ?_, xO_some (x := (k + 1, 1, [(18, [k], 0, 0)])) rfl rfl (eOR_q h3 (fun _ => trivial))⟩
      by_cases h5 : rkd (qK β n (k + 1)) = 5
      · have h6 := rkd_5.mp h5
        have hv2 : sA S 68 (k + 1) = nI (rsg (qK β n (k + 1))) := by rw [hA8.2.1]; exact v5.2.2.2.2.2.1 h6
        have := rsg_lt (qK β n (k + 1)) h6.2
        exact ra_name2 (d := D') hd ha (by omega) hkd hvl (by omega) (by omega) (by omega) y1 y2 y3 y4 (by omega) hk2 (by omega) h5 hv2 (by omega) (fun e => k6 (rsg_inj _ h6.2 h6.1 6 (by omega) (by omega) e)) h1 h2
      · exact ra_name1 (d := D') hd ha (by omega) hkd hvl (by omega) (by omega) (by omega) y1 y2 y3 y4 (by omega) hk2 (by omega) h5 h1 h2
  rw [if_neg k3]
  by_cases kc : qK β n k = 4 ∨ qK β n k = 5 ∨ qK β n k = 61 ∨ qK β n k = 62 ∨ qK β n k = 63
  · rw [if_pos kc]
    obtain ⟨g1, g2, g3, g4, g5, g6⟩ := xnx_at hX hk (by omega) hR
    have e1 : wR (qK β n) [(16, [k], 0, 0)] = if qK β n k = 61 then 1 else 2 := rfl
    have e2 : nwN (qK β n) [(16, [k], 0, 0)] = if qK β n k = 61 ∨ qK β n k = 5 then 0 else 1 := by
      have hh : nwN (qK β n) [(16, [k], 0, 0)] = (if (16 : Nat) = 16 ∧ qK β n k ≠ 61 ∧ qK β n k ≠ 5 then 1 else 0) + 0 := rfl
      rw [hh]
      by_cases a1 : qK β n k = 61
      · rw [if_neg (fun h => h.2.1 a1), if_pos (Or.inl a1)]
      · by_cases a2 : qK β n k = 5
        · rw [if_neg (fun h => h.2.2 a2), if_pos (Or.inr a2)]
        · rw [if_pos ⟨rfl, a1, a2⟩, if_neg (by omega)]
    have e3 : ntN (qK β n) [(16, [k], 0, 0)] = if qK β n k = 5 then 1 else 0 := by
      have hh : ntN (qK β n) [(16, [k], 0, 0)] = (if (16 : Nat) = 16 ∧ qK β n k = 5 then 1 else 0) + 0 := rfl
      rw [hh]
      by_cases a2 : qK β n k = 5
      · rw [if_pos ⟨rfl, a2⟩, if_pos a2]
      · rw [if_neg (fun h => a2 h.2), if_neg a2]
    have hmw := hX.2.2.2.2.2.2.1
    have hnum : ∀ x : Int64, qK β n k ≠ 61 → qK β n k ≠ 5 → x = cvL β n k → ∃ S1 S2, Ans (D' + 8) 320 [.ref m, .long x] (wI 6131 (nI 0) S) (some (.int (nI w))) S1 ∧ Ans (D' + 8) 302 [.ref 61, .int (nI 2), .int (nI w)] S1 none S2 ∧ sI S2 6115 = nI k ∧ eOR β n V P own0 m u S0 S c w tt (k + 1) 0 [(16, [k], 0, 0)] True (wI 6115 (nI (k + 1)) S2) := fun x a1 a2 hx => by
      obtain ⟨S1, h1, h2, h3, h4, h5⟩ := rE_whole (d := D' + 5) t1 (by omega) h86 x
      obtain ⟨S2, j1, j2, j3, j4, j5, j6⟩ := rE_2 (d := D' + 4) h2 (by omega) h86 (nI 2) (nI w)
      have a6 : sI S2 6115 = nI k := (j6 _ (by omega)).trans ((h5 _ (by omega)).trans haT)
      refine ⟨S1, S2, h1, j1, a6, ?_⟩
      have hfin : eOR β n V P own0 m u S0 S c w tt k 0 [(16, [k], 0, 0)] True S2 := by
        unfold eOR
        rw [e1, e2, e3, if_neg a1, if_neg (by omega), if_neg a2]
        refine ⟨j2, a6, (j6 _ (by omega)).trans ((h5 _ (by omega)).trans hfT), ⟨?_, trivial⟩, kR_trans t2 (kR_trans h3 j3 (Nat.le_refl _) (by omega) (Nat.le_refl _)) (Nat.le_refl _) (Nat.le_refl _) (Nat.le_refl _), fun _ => ⟨(j6 _ (by omega)).trans ((h5 _ (by omega)).trans (rIe _ _ _)), fun e => absurd rfl e⟩⟩
        refine ⟨fun e => ?_, fun e => ?_, fun e => ?_, fun e => ?_, fun e => ?_, fun e => ?_, fun e => ?_, fun e => ?_, fun e => ?_, fun e e2 => absurd e2 a1, fun _ _ _ => ⟨j4, w, Nat.lt_succ_self _, j5, ?_⟩, fun e e2 => absurd e2 a2⟩
        all_goals first | (exfalso; dsimp only at e; omega) | skip
        rw [j3.2.1 w (by omega), h4]
        exact hx
      exact eOR_at (x := k + 1) hfin
    have fin : ∀ {S2 : cS}, eOR β n V P own0 m u S0 S c w tt (k + 1) 0 [(16, [k], 0, 0)] True S2 → xO β n V P own0 m u S0 Mx Mw S c w tt k (fun j => 15 = 15 → qK β n j ≠ 6) (some (k + 1, 0, [(16, [k], 0, 0)])) (nI 1) S2 := fun {S2} h => xO_some (x := (k + 1, 0, [(16, [k], 0, 0)])) rfl rfl (eOR_q h (fun _ => trivial))
    rcases kc with h | h | h | h | h
    · obtain ⟨S1, S2, h1, h2, h3, h4⟩ := hnum (sL S 71 k) (by omega) (by omega) (by rw [hA8.2.2.2.1, x5.2.2.2.2.2.2.1 h]; unfold cvL; rw [if_pos h])
      rw [h] at hkd
      exact ⟨_, nI 1, ra_num (d := D') hd ha (by omega) hkd y1 y2 y3 (by omega) h1 h2 h3, fin h4⟩
    · have h8 := x5.2.2.2.2.2.2.2.1 h
      obtain ⟨S1, h1, h2, h3, h4, h4b, h5⟩ := rE_str (d := D' + 5) t1 (by omega) h86 (sL S 71 k) (sL S 72 k)
      obtain ⟨S2, j1, j2, j3, j4, j5, j6⟩ := rE_2 (d := D' + 4) h2 (by omega) h86 (nI 3) (nI tt)
      have a6 : sI S2 6115 = nI k := (j6 _ (by omega)).trans ((h5 _ (by omega)).trans haT)
      have hfin : eOR β n V P own0 m u S0 S c w tt k 0 [(16, [k], 0, 0)] True S2 := by
        unfold eOR
        rw [e1, e2, e3, if_neg (by omega), if_pos (by omega), if_pos h]
        refine ⟨j2, a6, (j6 _ (by omega)).trans ((h5 _ (by omega)).trans hfT), ⟨?_, trivial⟩, kR_trans t2 (kR_trans h3 j3 (Nat.le_refl _) (Nat.le_refl _) (by omega)) (Nat.le_refl _) (Nat.le_refl _) (Nat.le_refl _), fun _ => ⟨(j6 _ (by omega)).trans ((h5 _ (by omega)).trans (rIe _ _ _)), fun e => absurd rfl e⟩⟩
        refine ⟨fun e => ?_, fun e => ?_, fun e => ?_, fun e => ?_, fun e => ?_, fun e => ?_, fun e => ?_, fun e => ?_, fun e => ?_, fun e e2 => absurd (h.symm.trans e2) (by decide), fun _ _ e2 => absurd h e2, fun _ _ => ⟨j4, tt, Nat.lt_succ_self _, j5, ?_, ?_⟩⟩
        all_goals first | (exfalso; dsimp only at e; omega) | skip
        · rw [(j3.2.2 tt (by omega)).1, h4, hA8.2.2.2.1]
          exact h8.1
        · rw [(j3.2.2 tt (by omega)).2, h4b, hA8.2.2.2.2]
          exact h8.2
      rw [h] at hkd
      exact ⟨_, nI 1, ra_str (d := D') hd ha (by omega) hkd y1 y2 y3 (by omega) h1 j1 a6, fin (eOR_at (x := k + 1) hfin)⟩
    · have hvl : sA S 68 k = nI (qK β n k - 40) := by rw [hA8.2.1]; exact x5.2.2.2.2.1 (by omega)
      rw [h] at hkd hvl
      obtain ⟨S2, j1, j2, j3, j4, j6⟩ := rE_1 (d := D' + 4) t1 (by omega) h86 (nI 1)
      have a6 : sI S2 6115 = nI k := (j6 _ (by omega)).trans haT
      have hfin : eOR β n V P own0 m u S0 S c w tt k 0 [(16, [k], 0, 0)] True S2 := by
        unfold eOR
        rw [e1, e2, e3, if_pos h, if_pos (Or.inl h), if_neg (by omega)]
        refine ⟨j2, a6, (j6 _ (by omega)).trans hfT, ⟨?_, trivial⟩, kR_trans t2 j3 (Nat.le_refl _) (Nat.le_refl _) (Nat.le_refl _), fun _ => ⟨(j6 _ (by omega)).trans (rIe _ _ _), fun e => absurd rfl e⟩⟩
        refine ⟨fun e => ?_, fun e => ?_, fun e => ?_, fun e => ?_, fun e => ?_, fun e => ?_, fun e => ?_, fun e => ?_, fun e => ?_, fun _ _ => j4, fun _ e2 => absurd h e2, fun _ e2 => absurd (h.symm.trans e2) (by decide)⟩
        all_goals (exfalso; dsimp only at e; omega)
      exact ⟨_, nI 1, ra_none (d := D') hd ha (by omega) hkd hvl j1 a6, fin (eOR_at (x := k + 1) hfin)⟩
    · have hvl : sA S 68 k = nI (qK β n k - 40) := by rw [hA8.2.1]; exact x5.2.2.2.2.1 (by omega)
      obtain ⟨S1, S2, h1, h2, h3, h4⟩ := hnum 1 (by omega) (by omega) (by unfold cvL; rw [if_neg (by omega), if_neg (by omega), if_pos h])
      rw [h] at hkd hvl
      exact ⟨_, nI 1, ra_true (d := D') hd ha (by omega) hkd hvl y1 y2 y3 (by omega) h1 h2 h3, fin h4⟩
    · have hvl : sA S 68 k = nI (qK β n k - 40) := by rw [hA8.2.1]; exact x5.2.2.2.2.1 (by omega)
      obtain ⟨S1, S2, h1, h2, h3, h4⟩ := hnum 0 (by omega) (by omega) (by unfold cvL; rw [if_neg (by omega), if_neg (by omega), if_neg (by omega)])
      rw [h] at hkd hvl
      exact ⟨_, nI 1, ra_false (d := D') hd ha (by omega) hkd hvl y1 y2 y3 (by omega) h1 h2 h3, fin h4⟩
  rw [if_neg kc]
  have y6 := xsg_at (d := D' + 7) (K := 6) hX t1 haT hk (by omega)
  have y8 := xsg_at (d := D' + 7) (K := 8) hX t1 haT hk (by omega)
  have y10 := xsg_at (d := D' + 7) (K := 10) hX t1 haT hk (by omega)
  by_cases k6 : qK β n k = 6
  · rw [if_pos k6]
    have hkd5 : sA S 67 k = nI 5 := by rw [hkd, k6]; rfl
    obtain ⟨g1, g2, g3, g4, g5, g6⟩ := xnx_at hX hk (by omega) hR
    by_cases hd12 : 12 ≤ d
    · rw [if_pos hd12]
      obtain ⟨S1, b1, b2⟩ := b299
      exact ⟨S1, nI 0, ra_par_deep (d := D') hd ha (by omega) hkd5 (y6.1 k6) (by omega) b1, xO_none rfl rfl b2⟩
    rw [if_neg hd12]
    obtain ⟨u1, u2⟩ := rE_wI (i := 6115) (x := nI (k + 1)) t1 (Or.inl rfl)
    obtain ⟨S1, v, p1, p2⟩ := hA 0 (by decide) (d + 1) (k + 1) _ c w tt (D' + 8) (by omega) (by omega) g1 u1 (rIe _ _ _) ((rIn _ _ (by decide)).trans hfT) g5 (by omega)
    replace p1 : Ans (D' + 8) 306 [.ref 61, .int (nI (d + 1))] (wI 6115 (nI (k + 1)) (wI 6131 (nI 0) S)) (some (.int v)) S1 := p1
    cases hr : px (qK β n) F 0 (d + 1) (k + 1) 0 0 with
    | none =>
      obtain ⟨hv, hb⟩ := p2.1 hr
      rw [hv] at p1
      exact ⟨S1, nI 0, ra_par_bad (d := D') hd ha (by omega) hkd5 (y6.1 k6) (by omega) p1, xO_none rfl rfl (xB_eq hb g2)⟩
    | some r1 =>
      obtain ⟨hv, hok⟩ := p2.2 r1 hr
      rw [hv] at p1
      obtain ⟨e1, e2, e3, e4, e5, e6, e7⟩ := xpm_at hX (Or.inl (by decide)) g1 g5 hr
      have e8 := e7 (by decide)
      obtain ⟨s1, s2, s3⟩ := eOR_st hok
      obtain ⟨w1, w2⟩ := xtk_at (d := D' + 5) (K := 7) hX s1 s2 s3 e2 e6 (by omega)
      show ∃ S1 v, _ ∧ xO β n V P own0 m u S0 Mx Mw S c w tt k _ (if qK β n r1.1 = 7 then _ else none) v S1
      by_cases k7 : qK β n r1.1 = 7
      · rw [if_pos k7]
        exact ⟨_, nI 1, ra_par_T (d := D') hd ha (by omega) hkd5 (y6.1 k6) (by omega) p1 (w1 k7), xO_some (x := (r1.1 + 1, 0, r1.2.2)) rfl rfl (eOR_q (eOR_t0 (eOR_at (x := r1.1 + 1) (eOR_x t2 (eOR_x u2 hok)))) (fun _ => trivial))⟩
      · rw [if_neg k7]
        obtain ⟨S2, b1, b2⟩ := w2 k7
        exact ⟨S2, nI 0, ra_par_no (d := D') hd ha (by omega) hkd5 (y6.1 k6) (by omega) p1 b1, xO_none rfl rfl (xB_eq b2 (e5.trans g2))⟩
  rw [if_neg k6]
  have lst : ∀ (b t tg : Nat) (S1 : cS) (v : Int32) (r : PR), 3 ≤ qK β n k → (tg = 49 ∧ t = 13 ∧ (b = 9) ∨ tg = 50 ∧ t = 14 ∧ b = 0) → r = (if 12 ≤ d then none else px (qK β n) F t (d + 1) (k + 1) 0 b) → xV β n V P own0 m u S0 Mx Mw (wI 6131 (nI 0) S) c w tt k r v S1 → (r = none ∧ v = Int32.ofInt (-1) ∧ xO β n V P own0 m u S0 Mx Mw S c w tt k (fun j => 15 = 15 → qK β n j ≠ 6) (r.bind fun r => some (r.1, 0, r.2.2 ++ [(tg, [r.2.1], 0, 0)])) (nI 0) S1) ∨ ∃ x S2, v = nI x ∧ x < 100 ∧ Ans (D' + 8) 302 [.ref 61, .int (nI (tg - 31)), .int (nI x)] S1 none S2 ∧ xO β n V P own0 m u S0 Mx Mw S c w tt k (fun j => 15 = 15 → qK β n j ≠ 6) (r.bind fun r => some (r.1, 0, r.2.2 ++ [(tg, [r.2.1], 0, 0)])) (nI 1) (wI 6131 (nI 0) S2) := fun b t tg S1 v r h3 ht hr0 hV => by
    obtain ⟨g1, g2, g3, g4, g5, g6⟩ := xnx_at hX hk h3 hR
    cases hr : r with
    | none =>
      obtain ⟨hv, hb⟩ := hV.1 hr
      exact Or.inl ⟨rfl, hv, xO_none rfl rfl hb⟩
    | some x =>
      obtain ⟨hv, hm1, hok⟩ := hV.2 x hr
      have hd12 : ¬ 12 ≤ d := fun h => by rw [if_pos h, hr] at hr0; cases hr0
      rw [if_neg hd12, hr] at hr0
      have hcond : t ∈ [0, 2, 4, 5, 6, 8, 10, 11, 15] ∨ t ∈ [1, 3, 7, 9, 12] ∨ t = 14 ∨ (t = 13 ∧ 3 ≤ b) := by
        rcases ht with ⟨_, h2, h4⟩ | ⟨_, h2, h4⟩
        · exact Or.inr (Or.inr (Or.inr ⟨h2, by omega⟩))
        · exact Or.inr (Or.inr (Or.inl h2))
      obtain ⟨e1, e2, e3, e4, e5, e6, e7⟩ := xpm_at hX hcond g1 g5 hr0.symm
      obtain ⟨z1, z2, z3⟩ := e6
      obtain ⟨S2, i1, i2⟩ := eOR_2 (d := D' + 4) (o := (tg, [x.2.1], 0, 0)) (x := nI (tg - 31)) (y := nI x.2.1) (eOR_x t2 hok) (by omega) h86 hmM (lR_2 (by dsimp only; omega)) (by dsimp only; omega) (fun S2 c1 c2 => oR_2 (by omega) c1 c2)
      exact Or.inr ⟨x.2.1, S2, hv, by omega, i1, xO_some (x := (x.1, 0, x.2.2 ++ [(tg, [x.2.1], 0, 0)])) rfl rfl (eOR_q (eOR_t0 i2) (fun _ => trivial))⟩
  by_cases k8 : qK β n k = 8
  · rw [if_pos k8]
    have hkd5 : sA S 67 k = nI 5 := by rw [hkd, k8]; rfl
    obtain ⟨S1, v, p1, p2⟩ := XLM_s (D := D' + 8) (b := 9) hX hL (Or.inr rfl) hd (by omega) (by omega) hk t1 haT hfT hR (by omega)
    replace p1 : Ans (D' + 8) 324 [.ref 61, .int (nI d), .int (nI 93), .int (nI 40), .int (nI 0)] (wI 6131 (nI 0) S) (some (.int v)) S1 := p1
    have hsh : (if 12 ≤ d then none else (px (qK β n) F 13 (d + 1) (k + 1) 0 9).bind fun r => some (r.1, 0, r.2.2 ++ [(49, [r.2.1], 0, 0)])) = (if 12 ≤ d then none else px (qK β n) F 13 (d + 1) (k + 1) 0 9).bind fun r => some (r.1, 0, r.2.2 ++ [((49 : Nat), [r.2.1], (0 : Int), (0 : Int))]) := by split <;> rfl
    rw [hsh]
    rcases lst 9 13 49 S1 v _ (by omega) (Or.inl ⟨rfl, rfl, rfl⟩) rfl p2 with ⟨h1, h2, h3⟩ | ⟨x, S2, h1, h2, h3, h4⟩
    · rw [h2] at p1
      exact ⟨S1, nI 0, ra_list_no (d := D') hd ha (by omega) hkd5 (y6.2 k6) (y10.2 (by omega)) (y8.1 k8) p1, h3⟩
    · rw [h1] at p1
      exact ⟨_, nI 1, ra_list_T (d := D') hd ha (by omega) hkd5 (y6.2 k6) (y10.2 (by omega)) (y8.1 k8) h2 p1 h3, h4⟩
  rw [if_neg k8]
  by_cases k10 : qK β n k = 10
  · rw [if_pos k10]
    have hkd5 : sA S 67 k = nI 5 := by rw [hkd, k10]; rfl
    obtain ⟨S1, v, p1, p2⟩ := XQM_s (D := D' + 8) hX hQ hd (by omega) (by omega) hk t1 haT hfT hR (by omega)
    replace p1 : Ans (D' + 8) 324 [.ref 61, .int (nI d), .int (nI 125), .int (nI 20), .int (nI 1)] (wI 6131 (nI 0) S) (some (.int v)) S1 := p1
    have hsh : (if 12 ≤ d then none else (px (qK β n) F 14 (d + 1) (k + 1) 0 0).bind fun r => some (r.1, 0, r.2.2 ++ [(50, [r.2.1], 0, 0)])) = (if 12 ≤ d then none else px (qK β n) F 14 (d + 1) (k + 1) 0 0).bind fun r => some (r.1, 0, r.2.2 ++ [((50 : Nat), [r.2.1], (0 : Int), (0 : Int))]) := by split <;> rfl
    rw [hsh]
    rcases lst 0 14 50 S1 v _ (by omega) (Or.inr ⟨rfl, rfl, rfl⟩) rfl p2 with ⟨h1, h2, h3⟩ | ⟨x, S2, h1, h2, h3, h4⟩
    · rw [h2] at p1
      exact ⟨S1, nI 0, ra_dict_no (d := D') hd ha (by omega) hkd5 (y6.2 k6) (y10.1 k10) p1, h3⟩
    · rw [h1] at p1
      exact ⟨_, nI 1, ra_dict_T (d := D') hd ha (by omega) hkd5 (y6.2 k6) (y10.1 k10) h2 p1 h3, h4⟩
  rw [if_neg k10]
  obtain ⟨S1, b1, b2⟩ := b299
  refine ⟨S1, nI 0, ?_, xO_none rfl rfl b2⟩
  have hq64 := (q_lt β n k).2.2.2.2
  by_cases c0 : qK β n k = 0
  · rw [c0] at hkd
    exact ra_bad8 (d := D') hd ha (by omega) hkd b1
  by_cases c1 : qK β n k = 1
  · rw [c1] at hkd
    exact ra_bad7 (d := D') hd ha (by omega) hkd b1
  by_cases c2 : qK β n k = 2
  · rw [c2] at hkd
    exact ra_bad6 (d := D') hd ha (by omega) hkd b1
  by_cases c40 : qK β n k < 40
  · rw [rkd_5.mpr ⟨by omega, c40⟩] at hkd
    exact ra_sign (d := D') hd ha (by omega) hkd (y6.2 k6) (y10.2 k10) (y8.2 k8) b1
  · rw [rkd_2.mpr (by omega)] at hkd
    have hvl : sA S 68 k = nI (qK β n k - 40) := by rw [hA8.2.1]; exact x5.2.2.2.2.1 (by omega)
    exact ra_word (d := D') hd ha (by omega) hkd hvl (by omega) (by omega) (by omega) (by omega) b1
/-- ALL RULES OF EXPR in the reference -/
theorem XR_all (hX : cX β n V P m S0 k1 Mx Mw) : ∀ F, XA β n V P own0 m u S0 k1 Mx Mw F ∧ XJ β n V P own0 m u S0 k1 Mx Mw F 1 306 9 (fun _ => True) ∧ XJ β n V P own0 m u S0 k1 Mx Mw F 3 307 8 (fun _ => True) ∧ XJ β n V P own0 m u S0 k1 Mx Mw F 7 311 5 (fun _ => True) ∧ XJ β n V P own0 m u S0 k1 Mx Mw F 9 312 4 (fun _ => True) ∧ XJ β n V P own0 m u S0 k1 Mx Mw F 12 315 2 (fun j => qK β n j ≠ 6) ∧ XL β n V P own0 m u S0 k1 Mx Mw F ∧ XQ β n V P own0 m u S0 k1 Mx Mw F := by
  intro F
  induction F with
  | zero =>
    refine ⟨fun t ht d k S c w tt D _ hm => by omega, ?_, ?_, ?_, ?_, ?_, fun d k S c w tt D a b _ _ hm => by omega, fun d k S c w tt D a _ hm => by omega⟩
    all_goals exact fun d k S c w tt D g _ hm => by omega
  | succ F ih =>
    obtain ⟨hA, h1, h3, h7, h9, h12, hL, hQ⟩ := ih
    refine ⟨fun t ht => ?_, XJ1_s hX hA h1, XJ3_s hX hA h3, XJ7_s hX hA h7, XJ9_s hX hA h9, XJ12_s hX hA hL h12, XL_s hX hA hL, XQ_s hX hA hQ⟩
    simp only [List.mem_cons, List.not_mem_nil, or_false] at ht
    rcases ht with rfl | rfl | rfl | rfl | rfl | rfl | rfl | rfl | rfl
    · exact XA0_s hX hA h1
    · exact XA2_s hX hA h3
    · exact XA4_s hX hA
    · exact XA5_s hX hA
    · exact XA6_s hX hA h7
    · exact XA8_s hX hA h9
    · exact XA10_s hX hA
    · exact XA11_s hX hA h12
    · exact XA15_s hX hA hL hQ
end
