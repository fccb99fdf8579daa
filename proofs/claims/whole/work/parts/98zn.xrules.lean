/-! THE RULES OF EXPR IN THE REFERENCE: a rule and its loop -/
def LX (lv : sm_L) (d : Nat) : Prop := sm_get lv 0 = some (.ref 61) ∧ sm_get lv 1 = some (.int (nI d))
def XA1 (β : Nat → Nat) (n : Nat) (V : Nat → Int32) (P : Int32 → Int32 × Int32) (own0 : Nat → Nat × Nat) (m u : Nat) (S0 : cS) (k1 Mx Mw F t : Nat) : Prop := ∀ (d k : Nat) (S : cS) (c w tt D : Nat), d ≤ 12 → 16 * (n - qP β n k) + rkp t < F → k ≤ k1 → rE own0 m u S0 c w tt S → sI S 6115 = nI k → sI S 6116 = nI 0 → RQ β n k c w tt Mx Mw → 20 + 16 * (13 - d) + rkp t ≤ D → ∃ S1 v, Ans D (jr t) [.ref 61, .int (nI d)] S (some (.int v)) S1 ∧ xO β n V P own0 m u S0 Mx Mw S c w tt k (fun j => t = 15 → qK β n j ≠ 6) (px (qK β n) F t d k 0 0) v S1
def XA (β : Nat → Nat) (n : Nat) (V : Nat → Int32) (P : Int32 → Int32 × Int32) (own0 : Nat → Nat × Nat) (m u : Nat) (S0 : cS) (k1 Mx Mw F : Nat) : Prop := ∀ t, t ∈ [0, 2, 4, 5, 6, 8, 10, 11, 15] → XA1 β n V P own0 m u S0 k1 Mx Mw F t
def XJ (β : Nat → Nat) (n : Nat) (V : Nat → Int32) (P : Int32 → Int32 × Int32) (own0 : Nat → Nat × Nat) (m u : Nat) (S0 : cS) (k1 Mx Mw F t j lk : Nat) (gd : Nat → Prop) : Prop := ∀ (d k : Nat) (S : cS) (c w tt D g : Nat), d ≤ 12 → 16 * (n - qP β n k) + 1 < F → k ≤ k1 → rE own0 m u S0 c w tt S → sI S 6115 = nI k → sI S 6116 = nI 0 → RQ β n k c w tt Mx Mw → (gd k → sI S 6131 = nI g ∧ (g ≠ 0 → sI S 6132 = nI (c - trl g))) → 20 + 16 * (13 - d) + lk ≤ D → ∃ S1 v, (∀ lv, LX lv d → Bod D j 10 lv [] S (some (.int v)) S1) ∧ xO β n V P own0 m u S0 Mx Mw S c w tt k (fun _ => True) (px (qK β n) F t d k g 0) v S1
section
variable {β : Nat → Nat} {n : Nat} {V : Nat → Int32} {P : Int32 → Int32 × Int32} {own0 : Nat → Nat × Nat} {m u k1 Mx Mw F : Nat} {S0 : cS}
theorem XA0_s (hX : cX β n V P m S0 k1 Mx Mw) (hA : XA β n V P own0 m u S0 k1 Mx Mw F) (hJ : XJ β n V P own0 m u S0 k1 Mx Mw F 1 306 9 (fun _ => True)) : XA1 β n V P own0 m u S0 k1 Mx Mw (F + 1) 0 := by
  intro d k S c w tt D hd hm hk hE ha hf hR hD
  have ek : rkp 0 = 10 := rfl
  have ek2 : rkp 2 = 9 := rfl
  obtain ⟨D', rfl⟩ : ∃ D', D = D' + 9 := ⟨D - 9, by omega⟩
  show ∃ S1 v, Ans (D' + 9) 306 [.ref 61, .int (nI d)] S (some (.int v)) S1 ∧ xO β n V P own0 m u S0 Mx Mw S c w tt k _ (pxL (px (qK β n) F) 2 1 d k) v S1
  obtain ⟨S1, v, p1, p2⟩ := hA 2 (by decide) d k S c w tt (D' + 8) hd (by omega) hk hE ha hf hR (by omega)
  replace p1 : Ans (D' + 8) 307 [.ref 61, .int (nI d)] S (some (.int v)) S1 := p1
  cases hr : px (qK β n) F 2 d k 0 0 with
  | none =>
    obtain ⟨hv, hb⟩ := p2.1 hr
    rw [hv] at p1
    exact ⟨S1, nI 0, re_or_no (d := D') hd p1, xO_none (by unfold pxL; rw [hr]; rfl) rfl hb⟩
  | some r1 =>
    obtain ⟨hv, hok⟩ := p2.2 r1 hr
    rw [hv] at p1
    obtain ⟨e1, e2, e3, e4, e5, e6, e7⟩ := xpm_at hX (Or.inl (by decide)) hk hR hr
    have e8 := e7 (by decide)
    obtain ⟨s1, s2, s3⟩ := eOR_st hok
    obtain ⟨S2, v2, q1, q2⟩ := hJ d r1.1 S1 _ _ _ (D' + 8) r1.2.1 hd (by omega) e2 s1 s2 s3 e6 (fun hg => hok.2.2.2.2.2 (fun e => absurd e (by decide))) (by omega)
    refine ⟨S2, v2, re_or_go (d := D') hd p1 (fun lv1 h0 h1 => q1 lv1 ⟨h0, h1⟩), ?_⟩
    cases hr2 : px (qK β n) F 1 d r1.1 r1.2.1 0 with
    | none =>
      obtain ⟨hv2, hb2⟩ := q2.1 hr2
      exact xO_none (by unfold pxL; rw [hr]; show (px _ F 1 d r1.1 r1.2.1 0).bind _ = none; rw [hr2]; rfl) hv2 (xB_eq hb2 e5)
    | some r2 =>
      obtain ⟨hv2, hok2⟩ := q2.2 r2 hr2
      exact xO_some (x := (r2.1, r2.2.1, r1.2.2 ++ r2.2.2)) (by unfold pxL; rw [hr]; show (px _ F 1 d r1.1 r1.2.1 0).bind _ = _; rw [hr2]; rfl) hv2 (eOR_q (eOR_app hok hok2) (fun _ => trivial))
theorem XA2_s (hX : cX β n V P m S0 k1 Mx Mw) (hA : XA β n V P own0 m u S0 k1 Mx Mw F) (hJ : XJ β n V P own0 m u S0 k1 Mx Mw F 3 307 8 (fun _ => True)) : XA1 β n V P own0 m u S0 k1 Mx Mw (F + 1) 2 := by
  intro d k S c w tt D hd hm hk hE ha hf hR hD
  have ek : rkp 2 = 9 := rfl
  have ek2 : rkp 4 = 8 := rfl
  obtain ⟨D', rfl⟩ : ∃ D', D = D' + 9 := ⟨D - 9, by omega⟩
  show ∃ S1 v, Ans (D' + 9) 307 [.ref 61, .int (nI d)] S (some (.int v)) S1 ∧ xO β n V P own0 m u S0 Mx Mw S c w tt k _ (pxL (px (qK β n) F) 4 3 d k) v S1
  obtain ⟨S1, v, p1, p2⟩ := hA 4 (by decide) d k S c w tt (D' + 8) hd (by omega) hk hE ha hf hR (by omega)
  replace p1 : Ans (D' + 8) 308 [.ref 61, .int (nI d)] S (some (.int v)) S1 := p1
  cases hr : px (qK β n) F 4 d k 0 0 with
  | none =>
    obtain ⟨hv, hb⟩ := p2.1 hr
    rw [hv] at p1
    exact ⟨S1, nI 0, re_and_no (d := D') hd p1, xO_none (by unfold pxL; rw [hr]; rfl) rfl hb⟩
  | some r1 =>
    obtain ⟨hv, hok⟩ := p2.2 r1 hr
    rw [hv] at p1
    obtain ⟨e1, e2, e3, e4, e5, e6, e7⟩ := xpm_at hX (Or.inl (by decide)) hk hR hr
    have e8 := e7 (by decide)
    obtain ⟨s1, s2, s3⟩ := eOR_st hok
    obtain ⟨S2, v2, q1, q2⟩ := hJ d r1.1 S1 _ _ _ (D' + 8) r1.2.1 hd (by omega) e2 s1 s2 s3 e6 (fun hg => hok.2.2.2.2.2 (fun e => absurd e (by decide))) (by omega)
    refine ⟨S2, v2, re_and_go (d := D') hd p1 (fun lv1 h0 h1 => q1 lv1 ⟨h0, h1⟩), ?_⟩
    cases hr2 : px (qK β n) F 3 d r1.1 r1.2.1 0 with
    | none =>
      obtain ⟨hv2, hb2⟩ := q2.1 hr2
      exact xO_none (by unfold pxL; rw [hr]; show (px _ F 3 d r1.1 r1.2.1 0).bind _ = none; rw [hr2]; rfl) hv2 (xB_eq hb2 e5)
    | some r2 =>
      obtain ⟨hv2, hok2⟩ := q2.2 r2 hr2
      exact xO_some (x := (r2.1, r2.2.1, r1.2.2 ++ r2.2.2)) (by unfold pxL; rw [hr]; show (px _ F 3 d r1.1 r1.2.1 0).bind _ = _; rw [hr2]; rfl) hv2 (eOR_q (eOR_app hok hok2) (fun _ => trivial))
theorem XA6_s (hX : cX β n V P m S0 k1 Mx Mw) (hA : XA β n V P own0 m u S0 k1 Mx Mw F) (hJ : XJ β n V P own0 m u S0 k1 Mx Mw F 7 311 5 (fun _ => True)) : XA1 β n V P own0 m u S0 k1 Mx Mw (F + 1) 6 := by
  intro d k S c w tt D hd hm hk hE ha hf hR hD
  have ek : rkp 6 = 6 := rfl
  have ek2 : rkp 8 = 5 := rfl
  obtain ⟨D', rfl⟩ : ∃ D', D = D' + 9 := ⟨D - 9, by omega⟩
  show ∃ S1 v, Ans (D' + 9) 311 [.ref 61, .int (nI d)] S (some (.int v)) S1 ∧ xO β n V P own0 m u S0 Mx Mw S c w tt k _ (pxL (px (qK β n) F) 8 7 d k) v S1
  obtain ⟨S1, v, p1, p2⟩ := hA 8 (by decide) d k S c w tt (D' + 8) hd (by omega) hk hE ha hf hR (by omega)
  replace p1 : Ans (D' + 8) 312 [.ref 61, .int (nI d)] S (some (.int v)) S1 := p1
  cases hr : px (qK β n) F 8 d k 0 0 with
  | none =>
    obtain ⟨hv, hb⟩ := p2.1 hr
    rw [hv] at p1
    exact ⟨S1, nI 0, re_sum_no (d := D') hd p1, xO_none (by unfold pxL; rw [hr]; rfl) rfl hb⟩
  | some r1 =>
    obtain ⟨hv, hok⟩ := p2.2 r1 hr
    rw [hv] at p1
    obtain ⟨e1, e2, e3, e4, e5, e6, e7⟩ := xpm_at hX (Or.inl (by decide)) hk hR hr
    have e8 := e7 (by decide)
    obtain ⟨s1, s2, s3⟩ := eOR_st hok
    obtain ⟨S2, v2, q1, q2⟩ := hJ d r1.1 S1 _ _ _ (D' + 8) r1.2.1 hd (by omega) e2 s1 s2 s3 e6 (fun hg => hok.2.2.2.2.2 (fun e => absurd e (by decide))) (by omega)
    refine ⟨S2, v2, re_sum_go (d := D') hd p1 (fun lv1 h0 h1 => q1 lv1 ⟨h0, h1⟩), ?_⟩
    cases hr2 : px (qK β n) F 7 d r1.1 r1.2.1 0 with
    | none =>
      obtain ⟨hv2, hb2⟩ := q2.1 hr2
      exact xO_none (by unfold pxL; rw [hr]; show (px _ F 7 d r1.1 r1.2.1 0).bind _ = none; rw [hr2]; rfl) hv2 (xB_eq hb2 e5)
    | some r2 =>
      obtain ⟨hv2, hok2⟩ := q2.2 r2 hr2
      exact xO_some (x := (r2.1, r2.2.1, r1.2.2 ++ r2.2.2)) (by unfold pxL; rw [hr]; show (px _ F 7 d r1.1 r1.2.1 0).bind _ = _; rw [hr2]; rfl) hv2 (eOR_q (eOR_app hok hok2) (fun _ => trivial))
theorem XA8_s (hX : cX β n V P m S0 k1 Mx Mw) (hA : XA β n V P own0 m u S0 k1 Mx Mw F) (hJ : XJ β n V P own0 m u S0 k1 Mx Mw F 9 312 4 (fun _ => True)) : XA1 β n V P own0 m u S0 k1 Mx Mw (F + 1) 8 := by
  intro d k S c w tt D hd hm hk hE ha hf hR hD
  have ek : rkp 8 = 5 := rfl
  have ek2 : rkp 10 = 4 := rfl
  obtain ⟨D', rfl⟩ : ∃ D', D = D' + 9 := ⟨D - 9, by omega⟩
  show ∃ S1 v, Ans (D' + 9) 312 [.ref 61, .int (nI d)] S (some (.int v)) S1 ∧ xO β n V P own0 m u S0 Mx Mw S c w tt k _ (pxL (px (qK β n) F) 10 9 d k) v S1
  obtain ⟨S1, v, p1, p2⟩ := hA 10 (by decide) d k S c w tt (D' + 8) hd (by omega) hk hE ha hf hR (by omega)
  replace p1 : Ans (D' + 8) 313 [.ref 61, .int (nI d)] S (some (.int v)) S1 := p1
  cases hr : px (qK β n) F 10 d k 0 0 with
  | none =>
    obtain ⟨hv, hb⟩ := p2.1 hr
    rw [hv] at p1
    exact ⟨S1, nI 0, re_trm_no (d := D') hd p1, xO_none (by unfold pxL; rw [hr]; rfl) rfl hb⟩
  | some r1 =>
    obtain ⟨hv, hok⟩ := p2.2 r1 hr
    rw [hv] at p1
    obtain ⟨e1, e2, e3, e4, e5, e6, e7⟩ := xpm_at hX (Or.inl (by decide)) hk hR hr
    have e8 := e7 (by decide)
    obtain ⟨s1, s2, s3⟩ := eOR_st hok
    obtain ⟨S2, v2, q1, q2⟩ := hJ d r1.1 S1 _ _ _ (D' + 8) r1.2.1 hd (by omega) e2 s1 s2 s3 e6 (fun hg => hok.2.2.2.2.2 (fun e => absurd e (by decide))) (by omega)
    refine ⟨S2, v2, re_trm_go (d := D') hd p1 (fun lv1 h0 h1 => q1 lv1 ⟨h0, h1⟩), ?_⟩
    cases hr2 : px (qK β n) F 9 d r1.1 r1.2.1 0 with
    | none =>
      obtain ⟨hv2, hb2⟩ := q2.1 hr2
      exact xO_none (by unfold pxL; rw [hr]; show (px _ F 9 d r1.1 r1.2.1 0).bind _ = none; rw [hr2]; rfl) hv2 (xB_eq hb2 e5)
    | some r2 =>
      obtain ⟨hv2, hok2⟩ := q2.2 r2 hr2
      exact xO_some (x := (r2.1, r2.2.1, r1.2.2 ++ r2.2.2)) (by unfold pxL; rw [hr]; show (px _ F 9 d r1.1 r1.2.1 0).bind _ = _; rw [hr2]; rfl) hv2 (eOR_q (eOR_app hok hok2) (fun _ => trivial))
theorem XA11_s (hX : cX β n V P m S0 k1 Mx Mw) (hA : XA β n V P own0 m u S0 k1 Mx Mw F) (hJ : XJ β n V P own0 m u S0 k1 Mx Mw F 12 315 2 (fun j => qK β n j ≠ 6)) : XA1 β n V P own0 m u S0 k1 Mx Mw (F + 1) 11 := by
  intro d k S c w tt D hd hm hk hE ha hf hR hD
  have ek : rkp 11 = 3 := rfl
  have ek2 : rkp 15 = 2 := rfl
  obtain ⟨D', rfl⟩ : ∃ D', D = D' + 9 := ⟨D - 9, by omega⟩
  show ∃ S1 v, Ans (D' + 9) 315 [.ref 61, .int (nI d)] S (some (.int v)) S1 ∧ xO β n V P own0 m u S0 Mx Mw S c w tt k _ (pxL (px (qK β n) F) 15 12 d k) v S1
  obtain ⟨S1, v, p1, p2⟩ := hA 15 (by decide) d k S c w tt (D' + 8) hd (by omega) hk hE ha hf hR (by omega)
  replace p1 : Ans (D' + 8) 316 [.ref 61, .int (nI d)] S (some (.int v)) S1 := p1
  cases hr : px (qK β n) F 15 d k 0 0 with
  | none =>
    obtain ⟨hv, hb⟩ := p2.1 hr
    rw [hv] at p1
    exact ⟨S1, nI 0, re_post_no (d := D') hd p1, xO_none (by unfold pxL; rw [hr]; rfl) rfl hb⟩
  | some r1 =>
    obtain ⟨hv, hok⟩ := p2.2 r1 hr
    rw [hv] at p1
    obtain ⟨e1, e2, e3, e4, e5, e6, e7⟩ := xpm_at hX (Or.inl (by decide)) hk hR hr
    have e8 := e7 (by decide)
    obtain ⟨s1, s2, s3⟩ := eOR_st hok
    obtain ⟨S2, v2, q1, q2⟩ := hJ d r1.1 S1 _ _ _ (D' + 8) r1.2.1 hd (by omega) e2 s1 s2 s3 e6 (fun hg => hok.2.2.2.2.2 (fun _ => hg)) (by omega)
    refine ⟨S2, v2, re_post_go (d := D') hd p1 (fun lv1 h0 h1 => q1 lv1 ⟨h0, h1⟩), ?_⟩
    cases hr2 : px (qK β n) F 12 d r1.1 r1.2.1 0 with
    | none =>
      obtain ⟨hv2, hb2⟩ := q2.1 hr2
      exact xO_none (by unfold pxL; rw [hr]; show (px _ F 12 d r1.1 r1.2.1 0).bind _ = none; rw [hr2]; rfl) hv2 (xB_eq hb2 e5)
    | some r2 =>
      obtain ⟨hv2, hok2⟩ := q2.2 r2 hr2
      exact xO_some (x := (r2.1, r2.2.1, r1.2.2 ++ r2.2.2)) (by unfold pxL; rw [hr]; show (px _ F 12 d r1.1 r1.2.1 0).bind _ = _; rw [hr2]; rfl) hv2 (eOR_q (eOR_app hok hok2) (fun _ => trivial))
theorem XJ1_s (hX : cX β n V P m S0 k1 Mx Mw) (hA : XA β n V P own0 m u S0 k1 Mx Mw F) (hJ : XJ β n V P own0 m u S0 k1 Mx Mw F 1 306 9 (fun _ => True)) : XJ β n V P own0 m u S0 k1 Mx Mw (F + 1) 1 306 9 (fun _ => True) := by
  intro d k S c w tt D g hd hm hk hE ha hf hR hg hD
  have ek2 : rkp 2 = 9 := rfl
  obtain ⟨D', rfl⟩ : ∃ D', D = D' + 8 := ⟨D - 8, by omega⟩
  have hkM := hX.2.1
  have hmM := hX.2.2.2.2.1
  have hMx := hX.2.2.2.2.2.1
  have h86 := hX.2.2.2.2.2.2.2.1
  show ∃ S1 v, _ ∧ xO β n V P own0 m u S0 Mx Mw S c w tt k _ (pxJ (qK β n) (px (qK β n) F) 58 7 2 1 d k g) v S1
  obtain ⟨wy, wn⟩ := xwd_at (d := D' + 7) (q := 18) hX hE ha hk (by omega)
  by_cases hk58 : qK β n k = 58
  · obtain ⟨g1, g2, g3, g4, g5, g6⟩ := xnx_at hX hk (by omega) hR
    obtain ⟨t1, t2⟩ := rE_wI (i := 6115) (x := nI (k + 1)) hE (Or.inl rfl)
    have hR0 := hR
    obtain ⟨r1', r2', r3'⟩ := g6
    obtain ⟨S1, h1, h2, h3, h4, h5⟩ := rE_hole (d := D' + 3) t1 (by omega) h86 (nI 14)
    have a1 : sI S1 6115 = nI (k + 1) := (h5 _ (by omega)).trans (rIe _ _ _)
    have f1 : sI S1 6116 = nI 0 := (h5 _ (by omega)).trans ((rIn _ _ (by decide)).trans hf)
    have hR1 : RQ β n (k + 1) (c + 2) w tt Mx Mw := ⟨by omega, by omega, by omega⟩
    obtain ⟨S2, v, p1, p2⟩ := hA 2 (by decide) d (k + 1) S1 (c + 2) w tt (D' + 8) hd (by omega) g1 h2 a1 f1 hR1 (by omega)
    replace p1 : Ans (D' + 8) 307 [.ref 61, .int (nI d)] S1 (some (.int v)) S2 := p1
    cases hr : px (qK β n) F 2 d (k + 1) 0 0 with
    | none =>
      obtain ⟨hv, hb⟩ := p2.1 hr
      rw [hv] at p1
      exact ⟨S2, nI 0, fun lv hl => re_or_bad (d := D') hl.1 hl.2 hd ha (by omega) (q := c + 1) (by omega) (wy hk58) h1 p1, xO_none (by unfold pxJ; rw [if_pos hk58, hr]; rfl) rfl (xB_eq hb g2)⟩
    | some r1 =>
      obtain ⟨hv, hok⟩ := p2.2 r1 hr
      rw [hv] at p1
      obtain ⟨e1, e2, e3, e4, e5, e6, e7⟩ := xpm_at hX (Or.inl (by decide)) g1 hR1 hr
      have e8 := e7 (by decide)
      obtain ⟨z1, z2, z3⟩ := e6
      have hnil : eOR β n V P own0 m u S0 S c w tt k g [] True S := eOR_nil hE ha hf hg
      obtain ⟨S3, i1, i2⟩ := eOR_fill (d := D' + 7) (a := c) (op := 7) (Sh := S1) (by omega) hnil rfl rfl rfl (kR_trans t2 h3 (Nat.le_refl _) (Nat.le_refl _) (Nat.le_refl _)) h4 hok (by omega)
      rw [List.nil_append] at i2
      have i3 := eOR_t0 i2
      obtain ⟨s1, s2, s3⟩ := eOR_st i3
      have w1 : wR (qK β n) (jmp (qK β n) 7 r1.2.2 :: r1.2.2) = 2 + wR (qK β n) r1.2.2 := by show lR _ _ + _ = _; rw [(jmp_n (by omega)).1]
      have w2 : nwN (qK β n) (jmp (qK β n) 7 r1.2.2 :: r1.2.2) = nwN (qK β n) r1.2.2 := by show nwO _ _ + _ = _; rw [(jmp_n (by omega)).2.1]; omega
      have w3 : ntN (qK β n) (jmp (qK β n) 7 r1.2.2 :: r1.2.2) = ntN (qK β n) r1.2.2 := by show ntO _ _ + _ = _; rw [(jmp_n (by omega)).2.2]; omega
      obtain ⟨S5, v2, q1, q2⟩ := hJ d r1.1 _ _ _ _ (D' + 8) 0 hd (by omega) e2 s1 s2 s3 ⟨by omega, by omega, by omega⟩ (fun _ => i3.2.2.2.2.2 trivial) hD
      refine ⟨S5, v2, fun lv hl => re_or_turn (d := D') hl.1 hl.2 hd ha (by omega) (q := c + 1) (by omega) (wy hk58) h1 p1 i1 (fun lv1 h0 h1 => q1 lv1 ⟨h0, h1⟩), ?_⟩
      cases hr2 : px (qK β n) F 1 d r1.1 0 0 with
      | none =>
        obtain ⟨hv2, hb2⟩ := q2.1 hr2
        exact xO_none (by unfold pxJ; rw [if_pos hk58, hr]; show (px _ F 1 d r1.1 0 0).bind _ = none; rw [hr2]; rfl) hv2 (xB_eq hb2 (e5.trans g2))
      | some r2 =>
        obtain ⟨hv2, hok2⟩ := q2.2 r2 hr2
        have hg0 : r2.2.1 = 0 := pxJ_0 (by omega) hr2
        rw [hg0] at hok2
        exact xO_some (x := (r2.1, 0, jmp (qK β n) 7 r1.2.2 :: (r1.2.2 ++ r2.2.2))) (by unfold pxJ; rw [if_pos hk58, hr]; show (px _ F 1 d r1.1 0 0).bind _ = _; rw [hr2]; rfl) hv2 (eOR_app i3 hok2)
  · exact ⟨S, nI 1, fun lv hl => re_or_end (d := D') hl.1 hl.2 hd (wn hk58), xO_some (x := (k, g, [])) (by unfold pxJ; rw [if_neg hk58]) rfl (eOR_nil hE ha hf hg)⟩
theorem XJ3_s (hX : cX β n V P m S0 k1 Mx Mw) (hA : XA β n V P own0 m u S0 k1 Mx Mw F) (hJ : XJ β n V P own0 m u S0 k1 Mx Mw F 3 307 8 (fun _ => True)) : XJ β n V P own0 m u S0 k1 Mx Mw (F + 1) 3 307 8 (fun _ => True) := by
  intro d k S c w tt D g hd hm hk hE ha hf hR hg hD
  have ek2 : rkp 4 = 8 := rfl
  obtain ⟨D', rfl⟩ : ∃ D', D = D' + 8 := ⟨D - 8, by omega⟩
  have hkM := hX.2.1
  have hmM := hX.2.2.2.2.1
  have hMx := hX.2.2.2.2.2.1
  have h86 := hX.2.2.2.2.2.2.2.1
  show ∃ S1 v, _ ∧ xO β n V P own0 m u S0 Mx Mw S c w tt k _ (pxJ (qK β n) (px (qK β n) F) 57 6 4 3 d k g) v S1
  obtain ⟨wy, wn⟩ := xwd_at (d := D' + 7) (q := 17) hX hE ha hk (by omega)
  by_cases hk58 : qK β n k = 57
  · obtain ⟨g1, g2, g3, g4, g5, g6⟩ := xnx_at hX hk (by omega) hR
    obtain ⟨t1, t2⟩ := rE_wI (i := 6115) (x := nI (k + 1)) hE (Or.inl rfl)
    have hR0 := hR
    obtain ⟨r1', r2', r3'⟩ := g6
    obtain ⟨S1, h1, h2, h3, h4, h5⟩ := rE_hole (d := D' + 3) t1 (by omega) h86 (nI 13)
    have a1 : sI S1 6115 = nI (k + 1) := (h5 _ (by omega)).trans (rIe _ _ _)
    have f1 : sI S1 6116 = nI 0 := (h5 _ (by omega)).trans ((rIn _ _ (by decide)).trans hf)
    have hR1 : RQ β n (k + 1) (c + 2) w tt Mx Mw := ⟨by omega, by omega, by omega⟩
    obtain ⟨S2, v, p1, p2⟩ := hA 4 (by decide) d (k + 1) S1 (c + 2) w tt (D' + 8) hd (by omega) g1 h2 a1 f1 hR1 (by omega)
    replace p1 : Ans (D' + 8) 308 [.ref 61, .int (nI d)] S1 (some (.int v)) S2 := p1
    cases hr : px (qK β n) F 4 d (k + 1) 0 0 with
    | none =>
      obtain ⟨hv, hb⟩ := p2.1 hr
      rw [hv] at p1
      exact ⟨S2, nI 0, fun lv hl => re_and_bad (d := D') hl.1 hl.2 hd ha (by omega) (q := c + 1) (by omega) (wy hk58) h1 p1, xO_none (by unfold pxJ; rw [if_pos hk58, hr]; rfl) rfl (xB_eq hb g2)⟩
    | some r1 =>
      obtain ⟨hv, hok⟩ := p2.2 r1 hr
      rw [hv] at p1
      obtain ⟨e1, e2, e3, e4, e5, e6, e7⟩ := xpm_at hX (Or.inl (by decide)) g1 hR1 hr
      have e8 := e7 (by decide)
      obtain ⟨z1, z2, z3⟩ := e6
      have hnil : eOR β n V P own0 m u S0 S c w tt k g [] True S := eOR_nil hE ha hf hg
      obtain ⟨S3, i1, i2⟩ := eOR_fill (d := D' + 7) (a := c) (op := 6) (Sh := S1) (by omega) hnil rfl rfl rfl (kR_trans t2 h3 (Nat.le_refl _) (Nat.le_refl _) (Nat.le_refl _)) h4 hok (by omega)
      rw [List.nil_append] at i2
      have i3 := eOR_t0 i2
      obtain ⟨s1, s2, s3⟩ := eOR_st i3
      have w1 : wR (qK β n) (jmp (qK β n) 6 r1.2.2 :: r1.2.2) = 2 + wR (qK β n) r1.2.2 := by show lR _ _ + _ = _; rw [(jmp_n (by omega)).1]
      have w2 : nwN (qK β n) (jmp (qK β n) 6 r1.2.2 :: r1.2.2) = nwN (qK β n) r1.2.2 := by show nwO _ _ + _ = _; rw [(jmp_n (by omega)).2.1]; omega
      have w3 : ntN (qK β n) (jmp (qK β n) 6 r1.2.2 :: r1.2.2) = ntN (qK β n) r1.2.2 := by show ntO _ _ + _ = _; rw [(jmp_n (by omega)).2.2]; omega
      obtain ⟨S5, v2, q1, q2⟩ := hJ d r1.1 _ _ _ _ (D' + 8) 0 hd (by omega) e2 s1 s2 s3 ⟨by omega, by omega, by omega⟩ (fun _ => i3.2.2.2.2.2 trivial) hD
      refine ⟨S5, v2, fun lv hl => re_and_turn (d := D') hl.1 hl.2 hd ha (by omega) (q := c + 1) (by omega) (wy hk58) h1 p1 i1 (fun lv1 h0 h1 => q1 lv1 ⟨h0, h1⟩), ?_⟩
      cases hr2 : px (qK β n) F 3 d r1.1 0 0 with
      | none =>
        obtain ⟨hv2, hb2⟩ := q2.1 hr2
        exact xO_none (by unfold pxJ; rw [if_pos hk58, hr]; show (px _ F 3 d r1.1 0 0).bind _ = none; rw [hr2]; rfl) hv2 (xB_eq hb2 (e5.trans g2))
      | some r2 =>
        obtain ⟨hv2, hok2⟩ := q2.2 r2 hr2
        have hg0 : r2.2.1 = 0 := pxJ_0 (by omega) hr2
        rw [hg0] at hok2
        exact xO_some (x := (r2.1, 0, jmp (qK β n) 6 r1.2.2 :: (r1.2.2 ++ r2.2.2))) (by unfold pxJ; rw [if_pos hk58, hr]; show (px _ F 3 d r1.1 0 0).bind _ = _; rw [hr2]; rfl) hv2 (eOR_app i3 hok2)
  · exact ⟨S, nI 1, fun lv hl => re_and_end (d := D') hl.1 hl.2 hd (wn hk58), xO_some (x := (k, g, [])) (by unfold pxJ; rw [if_neg hk58]) rfl (eOR_nil hE ha hf hg)⟩
theorem XJ7_s (hX : cX β n V P m S0 k1 Mx Mw) (hA : XA β n V P own0 m u S0 k1 Mx Mw F) (hJ : XJ β n V P own0 m u S0 k1 Mx Mw F 7 311 5 (fun _ => True)) : XJ β n V P own0 m u S0 k1 Mx Mw (F + 1) 7 311 5 (fun _ => True) := by
  intro d k S c w tt D g hd hm hk hE ha hf hR hg hD
  have ek2 : rkp 8 = 5 := rfl
  obtain ⟨D', rfl⟩ : ∃ D', D = D' + 8 := ⟨D - 8, by omega⟩
  have hkM := hX.2.1
  have hmM := hX.2.2.2.2.1
  have hMx := hX.2.2.2.2.2.1
  have h86 := hX.2.2.2.2.2.2.2.1
  show ∃ S1 v, _ ∧ xO β n V P own0 m u S0 Mx Mw S c w tt k _ (pxO (qK β n) (px (qK β n) F) sumO 8 7 d k g) v S1
  have y15 := xsg_at (d := D' + 7) (K := 15) hX hE ha hk (by omega)
  have y16 := xsg_at (d := D' + 7) (K := 16) hX hE ha hk (by omega)
  obtain ⟨t1, t2⟩ := rE_wI (i := 6115) (x := nI (k + 1)) hE (Or.inl rfl)
  by_cases hop : sumO (qK β n k) ≠ 0
  · have hop2 := sumO_ok hop
    obtain ⟨g1, g2, g3, g4, g5, g6⟩ := xnx_at hX hk (by omega) hR
    obtain ⟨r1', r2', r3'⟩ := id g5
    obtain ⟨S1, v, p1, p2⟩ := hA 8 (by decide) d (k + 1) _ c w tt (D' + 8) hd (by omega) g1 t1 (rIe _ _ _) ((rIn _ _ (by decide)).trans hf) g5 (by omega)
    replace p1 : Ans (D' + 8) 312 [.ref 61, .int (nI d)] (wI 6115 (nI (k + 1)) S) (some (.int v)) S1 := p1
    obtain ⟨x1, x2, x3, x4, x5⟩ := cX_tk hX hk
    have hA8 := rE_A hE
    have hvl : sA S 68 k = nI (rsg (qK β n k)) := by rw [hA8.2.1]; exact x5.2.2.2.2.2.1 (by unfold sumO at hop; split at hop <;> (try split at hop) <;> (try split at hop) <;> omega)
    have hvM : rsg (qK β n k) < 100000 := by have := rsg_lt (qK β n k) (by unfold sumO at hop; split at hop <;> (try split at hop) <;> (try split at hop) <;> omega); omega
    cases hr : px (qK β n) F 8 d (k + 1) 0 0 with
    | none =>
      obtain ⟨hv, hb⟩ := p2.1 hr
      rw [hv] at p1
      refine ⟨S1, nI 0, fun lv hl => ?_, xO_none (by unfold pxO; rw [if_pos hop, hr]; rfl) rfl (xB_eq hb g2)⟩
      by_cases h15 : qK β n k = 15
      · exact re_sum_bad0 (d := D') hl.1 hl.2 hd ha (by omega)  (y15.1 h15) hvl hvM p1
      by_cases h16 : qK β n k = 16
      · exact re_sum_bad1 (d := D') hl.1 hl.2 hd ha (by omega) (y15.2 h15) (y16.1 h16) hvl hvM p1
      exact absurd rfl (by unfold sumO at hop; rw [if_neg h15, if_neg h16] at hop; exact hop)
    | some r1 =>
      obtain ⟨hv, hok⟩ := p2.2 r1 hr
      rw [hv] at p1
      obtain ⟨e1, e2, e3, e4, e5, e6, e7⟩ := xpm_at hX (Or.inl (by decide)) g1 g6 hr
      have e8 := e7 (by decide)
      obtain ⟨z1, z2, z3⟩ := e6
      have hK40 : bsg (qK β n k) = rsg (qK β n k) := by unfold bsg; rw [if_neg, if_neg, if_neg, if_neg, if_neg] <;> (unfold sumO at hop; split at hop <;> (try split at hop) <;> (try split at hop) <;> omega)
      obtain ⟨S2, i1, i2⟩ := eOR_2 (d := D' + 4) (o := (sumO (qK β n k), [qK β n k], 0, 0)) (x := nI 8) (y := nI (rsg (qK β n k))) (eOR_x t2 hok) (by omega) h86 hmM (lR_2 (by dsimp only; omega)) (by dsimp only; omega) (fun S2 c1 c2 => oR_B (by omega) c1 (by rw [hK40]; exact c2))
      have i3 := eOR_t0 i2
      obtain ⟨s1, s2, s3⟩ := eOR_st i3
      have w1 : wR (qK β n) (r1.2.2 ++ [(sumO (qK β n k), [qK β n k], 0, 0)]) = wR (qK β n) r1.2.2 + 2 := by rw [wR_app]; show _ + (lR _ _ + 0) = _; rw [lR_2 (by dsimp only; omega)]
      have w2 : nwN (qK β n) (r1.2.2 ++ [(sumO (qK β n k), [qK β n k], 0, 0)]) = nwN (qK β n) r1.2.2 := by rw [nwN_app]; show _ + (nwO _ _ + 0) = _; unfold nwO; rw [if_neg (fun h => by have h2 := h.1; dsimp only at h2; omega)]; rfl
      have w3 : ntN (qK β n) (r1.2.2 ++ [(sumO (qK β n k), [qK β n k], 0, 0)]) = ntN (qK β n) r1.2.2 := by rw [ntN_app]; show _ + (ntO _ _ + 0) = _; unfold ntO; rw [if_neg (fun h => by have h2 := h.1; dsimp only at h2; omega)]; rfl
      obtain ⟨S5, v2, q1, q2⟩ := hJ d r1.1 _ _ _ _ (D' + 8) 0 hd (by omega) e2 s1 s2 s3 ⟨by omega, by omega, by omega⟩ (fun _ => i3.2.2.2.2.2 trivial) hD
      refine ⟨S5, v2, fun lv hl => ?_, ?_⟩
      rotate_left
      · cases hr2 : px (qK β n) F 7 d r1.1 0 0 with
        | none =>
          obtain ⟨hv2, hb2⟩ := q2.1 hr2
          exact xO_none (by unfold pxO; rw [if_pos hop, hr]; show (px _ F 7 d r1.1 0 0).bind _ = none; rw [hr2]; rfl) hv2 (xB_eq hb2 (e5.trans g2))
        | some r2 =>
          obtain ⟨hv2, hok2⟩ := q2.2 r2 hr2
          have hg0 : r2.2.1 = 0 := pxJ_0 (by omega) hr2
          rw [hg0] at hok2
          have h9 := eOR_app i3 hok2
          rw [List.append_assoc] at h9
          exact xO_some (x := (r2.1, 0, r1.2.2 ++ (sumO (qK β n k), [qK β n k], 0, 0) :: r2.2.2)) (by unfold pxO; rw [if_pos hop, hr]; show (px _ F 7 d r1.1 0 0).bind _ = _; rw [hr2]; rfl) hv2 h9
      by_cases h15 : qK β n k = 15
      · exact re_sum_turn0 (d := D') hl.1 hl.2 hd ha (by omega)  (y15.1 h15) hvl hvM p1 i1 (fun lv1 h0 h1 => q1 lv1 ⟨h0, h1⟩)
      by_cases h16 : qK β n k = 16
      · exact re_sum_turn1 (d := D') hl.1 hl.2 hd ha (by omega) (y15.2 h15) (y16.1 h16) hvl hvM p1 i1 (fun lv1 h0 h1 => q1 lv1 ⟨h0, h1⟩)
      exact absurd rfl (by unfold sumO at hop; rw [if_neg h15, if_neg h16] at hop; exact hop)
  · exact ⟨S, nI 1, fun lv hl => re_sum_end (d := D') hl.1 hl.2 hd (y15.2 (fun h => hop (fun h2 => absurd h2 (by rw [h]; decide)))) (y16.2 (fun h => hop (fun h2 => absurd h2 (by rw [h]; decide)))), xO_some (x := (k, g, [])) (by unfold pxO; rw [if_neg hop]) rfl (eOR_nil hE ha hf hg)⟩
theorem XJ9_s (hX : cX β n V P m S0 k1 Mx Mw) (hA : XA β n V P own0 m u S0 k1 Mx Mw F) (hJ : XJ β n V P own0 m u S0 k1 Mx Mw F 9 312 4 (fun _ => True)) : XJ β n V P own0 m u S0 k1 Mx Mw (F + 1) 9 312 4 (fun _ => True) := by
  intro d k S c w tt D g hd hm hk hE ha hf hR hg hD
  have ek2 : rkp 10 = 4 := rfl
  obtain ⟨D', rfl⟩ : ∃ D', D = D' + 8 := ⟨D - 8, by omega⟩
  have hkM := hX.2.1
  have hmM := hX.2.2.2.2.1
  have hMx := hX.2.2.2.2.2.1
  have h86 := hX.2.2.2.2.2.2.2.1
  show ∃ S1 v, _ ∧ xO β n V P own0 m u S0 Mx Mw S c w tt k _ (pxO (qK β n) (px (qK β n) F) trmO 10 9 d k g) v S1
  have y17 := xsg_at (d := D' + 7) (K := 17) hX hE ha hk (by omega)
  have y22 := xsg_at (d := D' + 7) (K := 22) hX hE ha hk (by omega)
  have y18 := xsg_at (d := D' + 7) (K := 18) hX hE ha hk (by omega)
  obtain ⟨t1, t2⟩ := rE_wI (i := 6115) (x := nI (k + 1)) hE (Or.inl rfl)
  by_cases hop : trmO (qK β n k) ≠ 0
  · have hop2 := trmO_ok hop
    obtain ⟨g1, g2, g3, g4, g5, g6⟩ := xnx_at hX hk (by omega) hR
    obtain ⟨r1', r2', r3'⟩ := id g5
    obtain ⟨S1, v, p1, p2⟩ := hA 10 (by decide) d (k + 1) _ c w tt (D' + 8) hd (by omega) g1 t1 (rIe _ _ _) ((rIn _ _ (by decide)).trans hf) g5 (by omega)
    replace p1 : Ans (D' + 8) 313 [.ref 61, .int (nI d)] (wI 6115 (nI (k + 1)) S) (some (.int v)) S1 := p1
    obtain ⟨x1, x2, x3, x4, x5⟩ := cX_tk hX hk
    have hA8 := rE_A hE
    have hvl : sA S 68 k = nI (rsg (qK β n k)) := by rw [hA8.2.1]; exact x5.2.2.2.2.2.1 (by unfold trmO at hop; split at hop <;> (try split at hop) <;> (try split at hop) <;> omega)
    have hvM : rsg (qK β n k) < 100000 := by have := rsg_lt (qK β n k) (by unfold trmO at hop; split at hop <;> (try split at hop) <;> (try split at hop) <;> omega); omega
    cases hr : px (qK β n) F 10 d (k + 1) 0 0 with
    | none =>
      obtain ⟨hv, hb⟩ := p2.1 hr
      rw [hv] at p1
      refine ⟨S1, nI 0, fun lv hl => ?_, xO_none (by unfold pxO; rw [if_pos hop, hr]; rfl) rfl (xB_eq hb g2)⟩
      by_cases h17 : qK β n k = 17
      · exact re_trm_bad0 (d := D') hl.1 hl.2 hd ha (by omega)  (y17.1 h17) hvl hvM p1
      by_cases h22 : qK β n k = 22
      · exact re_trm_bad1 (d := D') hl.1 hl.2 hd ha (by omega) (y17.2 h17) (y22.1 h22) hvl hvM p1
      by_cases h18 : qK β n k = 18
      · exact re_trm_bad2 (d := D') hl.1 hl.2 hd ha (by omega) (y17.2 h17) (y22.2 h22) (y18.1 h18) hvl hvM p1
      exact absurd rfl (by unfold trmO at hop; rw [if_neg h17, if_neg h22, if_neg h18] at hop; exact hop)
    | some r1 =>
      obtain ⟨hv, hok⟩ := p2.2 r1 hr
      rw [hv] at p1
      obtain ⟨e1, e2, e3, e4, e5, e6, e7⟩ := xpm_at hX (Or.inl (by decide)) g1 g6 hr
      have e8 := e7 (by decide)
      obtain ⟨z1, z2, z3⟩ := e6
      have hK40 : bsg (qK β n k) = rsg (qK β n k) := by unfold bsg; rw [if_neg, if_neg, if_neg, if_neg, if_neg] <;> (unfold trmO at hop; split at hop <;> (try split at hop) <;> (try split at hop) <;> omega)
      obtain ⟨S2, i1, i2⟩ := eOR_2 (d := D' + 4) (o := (trmO (qK β n k), [qK β n k], 0, 0)) (x := nI 8) (y := nI (rsg (qK β n k))) (eOR_x t2 hok) (by omega) h86 hmM (lR_2 (by dsimp only; omega)) (by dsimp only; omega) (fun S2 c1 c2 => oR_B (by omega) c1 (by rw [hK40]; exact c2))
      have i3 := eOR_t0 i2
      obtain ⟨s1, s2, s3⟩ := eOR_st i3
      have w1 : wR (qK β n) (r1.2.2 ++ [(trmO (qK β n k), [qK β n k], 0, 0)]) = wR (qK β n) r1.2.2 + 2 := by rw [wR_app]; show _ + (lR _ _ + 0) = _; rw [lR_2 (by dsimp only; omega)]
      have w2 : nwN (qK β n) (r1.2.2 ++ [(trmO (qK β n k), [qK β n k], 0, 0)]) = nwN (qK β n) r1.2.2 := by rw [nwN_app]; show _ + (nwO _ _ + 0) = _; unfold nwO; rw [if_neg (fun h => by have h2 := h.1; dsimp only at h2; omega)]; rfl
      have w3 : ntN (qK β n) (r1.2.2 ++ [(trmO (qK β n k), [qK β n k], 0, 0)]) = ntN (qK β n) r1.2.2 := by rw [ntN_app]; show _ + (ntO _ _ + 0) = _; unfold ntO; rw [if_neg (fun h => by have h2 := h.1; dsimp only at h2; omega)]; rfl
      obtain ⟨S5, v2, q1, q2⟩ := hJ d r1.1 _ _ _ _ (D' + 8) 0 hd (by omega) e2 s1 s2 s3 ⟨by omega, by omega, by omega⟩ (fun _ => i3.2.2.2.2.2 trivial) hD
      refine ⟨S5, v2, fun lv hl => ?_, ?_⟩
      rotate_left
      · cases hr2 : px (qK β n) F 9 d r1.1 0 0 with
        | none =>
          obtain ⟨hv2, hb2⟩ := q2.1 hr2
          exact xO_none (by unfold pxO; rw [if_pos hop, hr]; show (px _ F 9 d r1.1 0 0).bind _ = none; rw [hr2]; rfl) hv2 (xB_eq hb2 (e5.trans g2))
        | some r2 =>
          obtain ⟨hv2, hok2⟩ := q2.2 r2 hr2
          have hg0 : r2.2.1 = 0 := pxJ_0 (by omega) hr2
          rw [hg0] at hok2
          have h9 := eOR_app i3 hok2
          rw [List.append_assoc] at h9
          exact xO_some (x := (r2.1, 0, r1.2.2 ++ (trmO (qK β n k), [qK β n k], 0, 0) :: r2.2.2)) (by unfold pxO; rw [if_pos hop, hr]; show (px _ F 9 d r1.1 0 0).bind _ = _; rw [hr2]; rfl) hv2 h9
      by_cases h17 : qK β n k = 17
      · exact re_trm_turn0 (d := D') hl.1 hl.2 hd ha (by omega)  (y17.1 h17) hvl hvM p1 i1 (fun lv1 h0 h1 => q1 lv1 ⟨h0, h1⟩)
      by_cases h22 : qK β n k = 22
      · exact re_trm_turn1 (d := D') hl.1 hl.2 hd ha (by omega) (y17.2 h17) (y22.1 h22) hvl hvM p1 i1 (fun lv1 h0 h1 => q1 lv1 ⟨h0, h1⟩)
      by_cases h18 : qK β n k = 18
      · exact re_trm_turn2 (d := D') hl.1 hl.2 hd ha (by omega) (y17.2 h17) (y22.2 h22) (y18.1 h18) hvl hvM p1 i1 (fun lv1 h0 h1 => q1 lv1 ⟨h0, h1⟩)
      exact absurd rfl (by unfold trmO at hop; rw [if_neg h17, if_neg h22, if_neg h18] at hop; exact hop)
  · exact ⟨S, nI 1, fun lv hl => re_trm_end (d := D') hl.1 hl.2 hd (y17.2 (fun h => hop (fun h2 => absurd h2 (by rw [h]; decide)))) (y22.2 (fun h => hop (fun h2 => absurd h2 (by rw [h]; decide)))) (y18.2 (fun h => hop (fun h2 => absurd h2 (by rw [h]; decide)))), xO_some (x := (k, g, [])) (by unfold pxO; rw [if_neg hop]) rfl (eOR_nil hE ha hf hg)⟩
theorem XA4_s (hX : cX β n V P m S0 k1 Mx Mw) (hA : XA β n V P own0 m u S0 k1 Mx Mw F) : XA1 β n V P own0 m u S0 k1 Mx Mw (F + 1) 4 := by
  intro d k S c w tt D hd hm hk hE ha hf hR hD
  have ek : rkp 4 = 8 := rfl
  have ek2 : rkp 5 = 7 := rfl
  obtain ⟨D', rfl⟩ : ∃ D', D = D' + 9 := ⟨D - 9, by omega⟩
  have hkM := hX.2.1
  have hmM := hX.2.2.2.2.1
  have hMx := hX.2.2.2.2.2.1
  have h86 := hX.2.2.2.2.2.2.2.1
  show ∃ S1 v, Ans (D' + 9) 308 [.ref 61, .int (nI d)] S (some (.int v)) S1 ∧ xO β n V P own0 m u S0 Mx Mw S c w tt k _ (pxU (qK β n) (px (qK β n) F) 59 25 4 5 d k) v S1
  obtain ⟨wy, wn⟩ := xwd_at (d := D' + 7) (q := 19) hX hE ha hk (by omega)
  unfold pxU
  by_cases hkw : qK β n k = 59
  · rw [if_pos hkw]
    by_cases hd12 : 12 ≤ d
    · rw [if_pos hd12]
      obtain ⟨S1, b1, b2⟩ := xbd_at (d := D' + 6) hX hE ha hf hk hR
      exact ⟨S1, nI 0, re_not_deep (d := D') hd (by omega) (wy hkw) b1, xO_none rfl rfl b2⟩
    · rw [if_neg hd12]
      obtain ⟨g1, g2, g3, g4, g5, g6⟩ := xnx_at hX hk (by omega) hR
      obtain ⟨r1', r2', r3'⟩ := id g5
      obtain ⟨t1, t2⟩ := rE_wI (i := 6115) (x := nI (k + 1)) hE (Or.inl rfl)
      obtain ⟨S1, v, p1, p2⟩ := hA 4 (by decide) (d + 1) (k + 1) _ c w tt (D' + 8) (by omega) (by omega) g1 t1 (rIe _ _ _) ((rIn _ _ (by decide)).trans hf) g5 (by omega)
      replace p1 : Ans (D' + 8) 308 [.ref 61, .int (nI (d + 1))] (wI 6115 (nI (k + 1)) S) (some (.int v)) S1 := p1
      cases hr : px (qK β n) F 4 (d + 1) (k + 1) 0 0 with
      | none =>
        obtain ⟨hv, hb⟩ := p2.1 hr
        rw [hv] at p1
        exact ⟨S1, nI 0, re_not_bad (d := D') hd (by omega) ha (by omega) (wy hkw) p1, xO_none rfl rfl (xB_eq hb g2)⟩
      | some r1 =>
        obtain ⟨hv, hok⟩ := p2.2 r1 hr
        rw [hv] at p1
        obtain ⟨e1, e2, e3, e4, e5, e6, e7⟩ := xpm_at hX (Or.inl (by decide)) g1 g5 hr
        have e8 := e7 (by decide)
        obtain ⟨z1, z2, z3⟩ := e6
        obtain ⟨S2, i1, i2⟩ := eOR_1 (d := D' + 4) (o := (25, [], 0, 0)) (x := nI 10) (eOR_x t2 hok) (by omega) h86 hmM rfl (by decide) (fun S2 c1 => oR_1 (by omega) c1)
        exact ⟨_, nI 1, re_not_T (d := D') hd (by omega) ha (by omega) (wy hkw) p1 i1, xO_some (x := (r1.1, 0, r1.2.2 ++ [(25, [], 0, 0)])) rfl rfl (eOR_q (eOR_t0 i2) (fun _ => trivial))⟩
  · rw [if_neg hkw]
    obtain ⟨S1, v, p1, p2⟩ := hA 5 (by decide) d k S c w tt (D' + 8) hd (by omega) hk hE ha hf hR (by omega)
    replace p1 : Ans (D' + 8) 310 [.ref 61, .int (nI d)] S (some (.int v)) S1 := p1
    have hz : v = 0 ∨ v = 1 := by
      cases hr : px (qK β n) F 5 d k 0 0 with
      | none => exact Or.inl (p2.1 hr).1
      | some r1 => exact Or.inr (p2.2 r1 hr).1
    exact ⟨S1, v, re_not_no (d := D') hd (wn hkw) p1 hz, ⟨p2.1, fun x hx => ⟨(p2.2 x hx).1, eOR_q (p2.2 x hx).2 (fun _ e => absurd e (by decide))⟩⟩⟩
theorem XA10_s (hX : cX β n V P m S0 k1 Mx Mw) (hA : XA β n V P own0 m u S0 k1 Mx Mw F) : XA1 β n V P own0 m u S0 k1 Mx Mw (F + 1) 10 := by
  intro d k S c w tt D hd hm hk hE ha hf hR hD
  have ek : rkp 10 = 4 := rfl
  have ek2 : rkp 11 = 3 := rfl
  obtain ⟨D', rfl⟩ : ∃ D', D = D' + 9 := ⟨D - 9, by omega⟩
  have hkM := hX.2.1
  have hmM := hX.2.2.2.2.1
  have hMx := hX.2.2.2.2.2.1
  have h86 := hX.2.2.2.2.2.2.2.1
  show ∃ S1 v, Ans (D' + 9) 313 [.ref 61, .int (nI d)] S (some (.int v)) S1 ∧ xO β n V P own0 m u S0 Mx Mw S c w tt k _ (pxU (qK β n) (px (qK β n) F) 16 26 10 11 d k) v S1
  obtain ⟨wy, wn⟩ := xsg_at (d := D' + 7) (K := 16) hX hE ha hk (by omega)
  unfold pxU
  by_cases hkw : qK β n k = 16
  · rw [if_pos hkw]
    by_cases hd12 : 12 ≤ d
    · rw [if_pos hd12]
      obtain ⟨S1, b1, b2⟩ := xbd_at (d := D' + 6) hX hE ha hf hk hR
      exact ⟨S1, nI 0, re_neg_deep (d := D') hd (by omega) (wy hkw) b1, xO_none rfl rfl b2⟩
    · rw [if_neg hd12]
      obtain ⟨g1, g2, g3, g4, g5, g6⟩ := xnx_at hX hk (by omega) hR
      obtain ⟨r1', r2', r3'⟩ := id g5
      obtain ⟨t1, t2⟩ := rE_wI (i := 6115) (x := nI (k + 1)) hE (Or.inl rfl)
      obtain ⟨S1, v, p1, p2⟩ := hA 10 (by decide) (d + 1) (k + 1) _ c w tt (D' + 8) (by omega) (by omega) g1 t1 (rIe _ _ _) ((rIn _ _ (by decide)).trans hf) g5 (by omega)
      replace p1 : Ans (D' + 8) 313 [.ref 61, .int (nI (d + 1))] (wI 6115 (nI (k + 1)) S) (some (.int v)) S1 := p1
      cases hr : px (qK β n) F 10 (d + 1) (k + 1) 0 0 with
      | none =>
        obtain ⟨hv, hb⟩ := p2.1 hr
        rw [hv] at p1
        exact ⟨S1, nI 0, re_neg_bad (d := D') hd (by omega) ha (by omega) (wy hkw) p1, xO_none rfl rfl (xB_eq hb g2)⟩
      | some r1 =>
        obtain ⟨hv, hok⟩ := p2.2 r1 hr
        rw [hv] at p1
        obtain ⟨e1, e2, e3, e4, e5, e6, e7⟩ := xpm_at hX (Or.inl (by decide)) g1 g5 hr
        have e8 := e7 (by decide)
        obtain ⟨z1, z2, z3⟩ := e6
        obtain ⟨S2, i1, i2⟩ := eOR_1 (d := D' + 4) (o := (26, [], 0, 0)) (x := nI 9) (eOR_x t2 hok) (by omega) h86 hmM rfl (by decide) (fun S2 c1 => oR_1 (by omega) c1)
        exact ⟨_, nI 1, re_neg_T (d := D') hd (by omega) ha (by omega) (wy hkw) p1 i1, xO_some (x := (r1.1, 0, r1.2.2 ++ [(26, [], 0, 0)])) rfl rfl (eOR_q (eOR_t0 i2) (fun _ => trivial))⟩
  · rw [if_neg hkw]
    obtain ⟨S1, v, p1, p2⟩ := hA 11 (by decide) d k S c w tt (D' + 8) hd (by omega) hk hE ha hf hR (by omega)
    replace p1 : Ans (D' + 8) 315 [.ref 61, .int (nI d)] S (some (.int v)) S1 := p1
    have hz : v = 0 ∨ v = 1 := by
      cases hr : px (qK β n) F 11 d k 0 0 with
      | none => exact Or.inl (p2.1 hr).1
      | some r1 => exact Or.inr (p2.2 r1 hr).1
    exact ⟨S1, v, re_neg_no (d := D') hd (wn hkw) p1 hz, ⟨p2.1, fun x hx => ⟨(p2.2 x hx).1, eOR_q (p2.2 x hx).2 (fun _ e => absurd e (by decide))⟩⟩⟩
end
