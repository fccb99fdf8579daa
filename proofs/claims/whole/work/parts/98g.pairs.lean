/-! THE RULES OF EXPR IN THE CLASS: pairs in { } -/
section
variable {A : Nat → Int32} {n z0 fb F : Nat} {S0 : cS}
def lvQ (d fd mo : Nat) : sm_L := [(3, .int (nI mo)), (2, .int (nI fd)), (0, .ref 44), (1, .int (nI d))]
def EQ (A : Nat → Int32) (n : Nat) (S0 : cS) (z0 fb F : Nat) : Prop := ∀ (d k : Nat) (S : cS) (a c f cur D M Mc Mf fd : Nat), d ≤ 11 → 16 * (n - qP (by1 A) n k) + 12 < F → (fd = 0 → qK (by1 A) n k ≠ 11) → fd ≤ 20 → cP A n S0 z0 k S → eS S a c f cur → RM (by1 A) n k 1 (40 * (13 - d) - 16) a c f M Mc Mf → 20 + 16 * (13 - d) - 6 ≤ D → ∃ S1 v, Bod D 78 30 (lvQ d fd 1) [] S (some (.int (nI v))) S1 ∧ eOv A n S0 z0 fb S a c f cur k M Mc Mf (px (qK (by1 A) n) F 14 (d + 1) k fd 0) v S1
/-- a pair: both its values; where it ends -/
theorem pair_s (hX : pX A n S0 z0) (h0 : qK (by1 A) n 0 ≠ 1) (hA : EA A n S0 z0 fb F) {d k a c f cur D' M Mc Mf : Nat} {S : cS} (hd : d ≤ 11) (hm : 16 * (n - qP (by1 A) n k) + 12 < F + 1) (hP : cP A n S0 z0 k S) (hS : eS S a c f cur) (hR : RM (by1 A) n k 1 (40 * (13 - d) - 16) a c f M Mc Mf) (hD : 20 + 16 * (13 - d) - 6 ≤ D' + 8) : ∃ S1 S2 S3, Ans (D' + 8) 57 [.ref 44, .int (nI (d + 1))] S none S1 ∧ Ans (D' + 8) 75 [.ref 31, .int (nI 13)] S1 none S2 ∧ Ans (D' + 8) 57 [.ref 44, .int (nI (d + 1))] S2 none S3 ∧ ((∃ r u, px (qK (by1 A) n) F 0 (d + 1) k 0 0 = some r ∧ qK (by1 A) n r.1 = 13 ∧ px (qK (by1 A) n) F 0 (d + 1) (r.1 + 1) 0 0 = some u ∧ eON A n S0 z0 fb S a c f cur u.1 (r.2.2 ++ u.2.2) S3) ∨ ((px (qK (by1 A) n) F 0 (d + 1) k 0 0 = none ∨ ∃ r, px (qK (by1 A) n) F 0 (d + 1) k 0 0 = some r ∧ (qK (by1 A) n r.1 ≠ 13 ∨ px (qK (by1 A) n) F 0 (d + 1) (r.1 + 1) 0 0 = none)) ∧ eBN A n S0 z0 S a c f cur (qL (by1 A) n k) M Mc Mf S3)) := by
  obtain ⟨N, hBR, r1, r2, r3, r4, r5, r6⟩ := hR
  have hBa := BR_at hBR
  have hq := q_lt (by1 A) n k
  have hn := hX.1
  have et : rkp 0 = 10 := rfl
  obtain ⟨S1, q1, q2⟩ := hA 0 (by decide) (d + 1) k S a c f cur (D' + 8) M Mc Mf (by omega) (by omega) hP hS ⟨N, by assumption, by omega, r2, by omega, r4, by omega, r6⟩ (by omega)
  -- a second value that is behind a fault
  have hbad : ∀ {S2 : cS}, eBN A n S0 z0 S a c f cur (qL (by1 A) n k) M Mc Mf S2 → ∃ S3, Ans (D' + 8) 57 [.ref 44, .int (nI (d + 1))] S2 none S3 ∧ eBN A n S0 z0 S a c f cur (qL (by1 A) n k) M Mc Mf S3 := fun {S2} hb2 => by
    obtain ⟨b1, ⟨x, y, w, b2, b3, b4, b5, b6, b7, b8⟩, b9⟩ := hb2
    obtain ⟨S3, t1, t2⟩ := bad_parse (d := D' - 9) (dp := d + 1) b1 b2
    rw [show D' - 9 + 17 = D' + 8 by omega] at t1
    obtain ⟨d1, ⟨x2, y2, w2, d2, d3, d4, d5, d6, d7, d8, d10⟩, d9⟩ := t2
    exact ⟨S3, t1, d1, ⟨x2, y2, w2, d2, by omega, by omega, by omega, by omega, by omega, by omega⟩, xF_trans b9 d9 b3 b5 b7⟩
  cases hr : px (qK (by1 A) n) F 0 (d + 1) k 0 0 with
  | none =>
    have hb := eBD_N (q2.1 hr)
    obtain ⟨S2, p1, p2, p3, p4⟩ := pass_B (d := D' + 6) hb.1 (t := 13) (by omega) (by omega)
    obtain ⟨S3, t1, t2⟩ := hbad (eBN_lx hb p2 p3 p4)
    exact ⟨S1, S2, S3, q1, p1, t1, Or.inr ⟨Or.inl rfl, t2⟩⟩
  | some r =>
    have hok := eOK_N (q2.2 r hr)
    obtain ⟨u1, u2, u3, u4, u5⟩ := (px_G (qK (by1 A) n) F).1 0 (by decide) _ _ _ _ _ hr
    have hB1 := BR_px (N := N) (by assumption) hr (by omega) (by omega) u2
    have hb1 := BR_at hB1
    obtain ⟨v1, v2, v3, v4⟩ := q_run (by omega) u2
    have hq1 := q_lt (by1 A) n r.1
    have hfx := fxN_le cur r.2.2
    by_cases hk13 : qK (by1 A) n r.1 = 13
    · obtain ⟨g1, g2, g3, g4, g5, g6⟩ := q_gt (β := by1 A) (n := n) (k := r.1) (by omega)
      have hB2 := BR_1 (N := N) (k := r.1) (by assumption) (by omega) (by omega)
      have hb2 := BR_at hB2
      obtain ⟨S2, p1, p2, p3, p4⟩ := pass_T (d := D' + 1) hX hok.1 hk13 (by omega)
      have hok2 := eON_lx hok (by omega) p2 p3 p4
      obtain ⟨S3, t1, t2⟩ := hA 0 (by decide) (d + 1) (r.1 + 1) S2 (a + wC r.2.2) (c + cnN r.2.2) (f + fxN cur r.2.2) cur (D' + 8) M Mc Mf (by omega) (by omega) p2 hok2.2.1 ⟨N, by assumption, by omega, r2, by omega, r4, by omega, r6⟩ (by omega)
      cases hu : px (qK (by1 A) n) F 0 (d + 1) (r.1 + 1) 0 0 with
      | none =>
        have hb := eBD_N (t2.1 hu)
        rw [g5, v2] at hb
        exact ⟨S1, S2, S3, q1, p1, t1, Or.inr ⟨Or.inr ⟨r, rfl, Or.inr hu⟩, eBN_app hok2 hb⟩⟩
      | some u =>
        obtain ⟨y1, y2, y3, y4, y5⟩ := (px_G (qK (by1 A) n) F).1 0 (by decide) _ _ _ _ _ hu
        have hB3 := BR_px (N := N) (by assumption) hu (by omega) (by omega) y2
        have hb3 := BR_at hB3
        obtain ⟨x1, x2, x3, x4⟩ := q_run (by omega) y2
        have hq2 := q_lt (by1 A) n u.1
        exact ⟨S1, S2, S3, q1, p1, t1, Or.inl ⟨r, u, rfl, hk13, hu, eON_app hok2 (eOK_N (t2.2 u hu)) (by omega)⟩⟩
    · obtain ⟨S2, p1, p2, p3, p4⟩ := pass_F (d := D' + 6) (t := 13) hX h0 hok.1 hk13 (by omega)
      rw [v2] at p2
      obtain ⟨S3, t1, t2⟩ := hbad (eON_bad hok p2 p3 p4 (by omega) (by omega) (by omega))
      exact ⟨S1, S2, S3, q1, p1, t1, Or.inr ⟨Or.inr ⟨r, rfl, Or.inl hk13⟩, t2⟩⟩
theorem EQ_s (hX : pX A n S0 z0) (h0 : qK (by1 A) n 0 ≠ 1) (hA : EA A n S0 z0 fb F) (hL : EQ A n S0 z0 fb F) : EQ A n S0 z0 fb (F + 1) := by
  intro d k S a c f cur D M Mc Mf fd hd hm hkb hfd hP hS hR hD
  obtain ⟨D', rfl⟩ : ∃ D', D = D' + 8 := ⟨D - 8, by omega⟩
  obtain ⟨S1, S2, S3, q1, p1, t1, hout⟩ := pair_s hX h0 hA hd hm hP hS hR hD
  obtain ⟨N, hBR, r1, r2, r3, r4, r5, r6⟩ := hR
  have hBa := BR_at hBR
  have hq := q_lt (by1 A) n k
  have hn := hX.1
  show ∃ S1 v, _ ∧ eOv A n S0 z0 fb S a c f cur k M Mc Mf (px14 (qK (by1 A) n) (px (qK (by1 A) n) F) (d + 1) k fd) v S1
  unfold px14
  rw [if_neg (fun h => hkb h.1 h.2)]
  have hpb : ∀ {S2 : cS}, eBN A n S0 z0 S a c f cur (qL (by1 A) n k) M Mc Mf S2 → ∃ S3, Ans (D' + 8) 75 [.ref 31, .int (nI 11)] S2 none S3 ∧ eBN A n S0 z0 S a c f cur (qL (by1 A) n k) M Mc Mf S3 := fun {S2} hb2 => by
    obtain ⟨S3, t1, t2, t3, t4⟩ := pass_B (d := D' + 6) hb2.1 (t := 11) (by omega) (by omega)
    exact ⟨S3, t1, eBN_lx hb2 t2 t3 t4⟩
  have hfail : ∀ {S2 : cS}, eBN A n S0 z0 S a c f cur (qL (by1 A) n k) M Mc Mf S2 → ∃ S3 S4, Ans (D' + 8) 44 [.ref 31] S2 none S3 ∧ Ans (D' + 8) 75 [.ref 31, .int (nI 11)] S3 none S4 ∧ eBN A n S0 z0 S a c f cur (qL (by1 A) n k) M Mc Mf S4 := fun {S2} hb2 => by
    obtain ⟨S3, t1, t2, t3, t4⟩ := fail_B (d := D' + 7) hb2.1
    obtain ⟨S4, t5, t6⟩ := hpb (eBN_lx hb2 t2 t3 t4)
    exact ⟨S3, S4, t1, t5, t6⟩
  rcases hout with ⟨r, u, hr, hk13, hu, hok⟩ | ⟨hnone, hb⟩
  · obtain ⟨u1, u2, u3, u4, u5⟩ := (px_G (qK (by1 A) n) F).1 0 (by decide) _ _ _ _ _ hr
    have hB4 := BR_px (N := N) (by assumption) hr (by omega) (by omega) u2
    have hb4 := BR_at hB4
    obtain ⟨v1, v2, v3, v4⟩ := q_run (by omega) u2
    have hq1 := q_lt (by1 A) n r.1
    obtain ⟨g1, g2, g3, g4, g5, g6⟩ := q_gt (β := by1 A) (n := n) (k := r.1) (by omega)
    have hB5 := BR_1 (N := N) (k := r.1) (by assumption) (by omega) (by omega)
    have hb5 := BR_at hB5
    obtain ⟨y1, y2, y3, y4, y5⟩ := (px_G (qK (by1 A) n) F).1 0 (by decide) _ _ _ _ _ hu
    have hB6 := BR_px (N := N) (by assumption) hu (by omega) (by omega) y2
    have hb6 := BR_at hB6
    obtain ⟨x1, x2, x3, x4⟩ := q_run (by omega) y2
    have hq2 := q_lt (by1 A) n u.1
    have w1 := wC_app r.2.2 u.2.2
    have w2 := cnN_app r.2.2 u.2.2
    have w3 := nmN_app r.2.2 u.2.2
    have hfx := fxN_le cur (r.2.2 ++ u.2.2)
    by_cases hmost : 20 ≤ fd
    · rw [if_pos hmost]
      by_cases hk12 : qK (by1 A) n u.1 = 12
      · obtain ⟨S4, o1, o2, o3, o4⟩ := pass_T (d := D' + 1) hX hok.1 hk12 (by omega)
        obtain ⟨e1, e2, e3, e4, e5, e6⟩ := q_gt (β := by1 A) (n := n) (k := u.1) (by omega)
        have hB7 := BR_1 (N := N) (k := u.1) (by assumption) (by omega) (by omega)
        have hb7 := BR_at hB7
        have hok2 := eON_lx hok (by omega) o2 o3 o4
        obtain ⟨S5, i1, i2, i3, i4⟩ := fail_T (d := D' + 7) hX h0 o2
        rw [e5, x2, g5, v2] at i2
        obtain ⟨S6, i5, i6⟩ := hpb (eON_bad hok2 i2 i3 i4 (by omega) (by omega) (by omega))
        exact ⟨S6, fd + 1, ePrs_more (d := D') hfd q1 p1 t1 (cP_5 hok.1) hk12 o1 (ePrs_much1 (by omega) (by omega) i1 i5), fun _ => i6, fun x hx => by cases hx⟩
      · obtain ⟨S5, i1, i2, i3, i4⟩ := fail_T (d := D' + 7) hX h0 hok.1
        rw [x2, g5, v2] at i2
        obtain ⟨S6, i5, i6⟩ := hpb (eON_bad hok i2 i3 i4 (by omega) (by omega) (by omega))
        exact ⟨S6, fd + 1, ePrs_last (d := D') hfd q1 p1 t1 (cP_5 hok.1) hq2.2.2.2.2 hk12 (ePrs_much0 (by omega) (by omega) i1 i5), fun _ => i6, fun x hx => by cases hx⟩
    · rw [if_neg hmost, hr]
      show ∃ S1 v, _ ∧ eOv A n S0 z0 fb S a c f cur k M Mc Mf (if qK (by1 A) n r.1 = 13 then (px (qK (by1 A) n) F 0 (d + 1) (r.1 + 1) 0 0).bind fun u => if qK (by1 A) n u.1 = 11 then some (u.1 + 1, fd + 1, r.2.2 ++ u.2.2) else if qK (by1 A) n u.1 = 12 then (px (qK (by1 A) n) F 14 (d + 1) (u.1 + 1) (fd + 1) 0).bind fun s => some (s.1, s.2.1, r.2.2 ++ (u.2.2 ++ s.2.2)) else none else none) v S1
      rw [if_pos hk13, hu]
      show ∃ S1 v, _ ∧ eOv A n S0 z0 fb S a c f cur k M Mc Mf (if qK (by1 A) n u.1 = 11 then some (u.1 + 1, fd + 1, r.2.2 ++ u.2.2) else if qK (by1 A) n u.1 = 12 then (px (qK (by1 A) n) F 14 (d + 1) (u.1 + 1) (fd + 1) 0).bind fun s => some (s.1, s.2.1, r.2.2 ++ (u.2.2 ++ s.2.2)) else none) v S1
      by_cases hk11 : qK (by1 A) n u.1 = 11
      · rw [if_pos hk11]
        obtain ⟨S4, o1, o2, o3, o4⟩ := pass_T (d := D' + 1) hX hok.1 hk11 (by omega)
        refine ⟨S4, fd + 1, ePrs_last (d := D') hfd q1 p1 t1 (cP_5 hok.1) hq2.2.2.2.2 (by omega) (ePrs_end (by omega) o1), fun h => (by cases h), fun x hx => ?_⟩
        injection hx with hx
        subst hx
        exact ⟨eON_lx hok (by show c + cnN (r.2.2 ++ u.2.2) ≤ 5200; omega) o2 o3 o4, rfl⟩
      · rw [if_neg hk11]
        by_cases hk12 : qK (by1 A) n u.1 = 12
        · rw [if_pos hk12]
          obtain ⟨S4, o1, o2, o3, o4⟩ := pass_T (d := D' + 1) hX hok.1 hk12 (by omega)
          obtain ⟨e1, e2, e3, e4, e5, e6⟩ := q_gt (β := by1 A) (n := n) (k := u.1) (by omega)
          have hB8 := BR_1 (N := N) (k := u.1) (by assumption) (by omega) (by omega)
          have hb8 := BR_at hB8
          have hok2 := eON_lx hok (by omega) o2 o3 o4
          obtain ⟨S5, v, s1, s2⟩ := hL d (u.1 + 1) S4 (a + wC (r.2.2 ++ u.2.2)) (c + cnN (r.2.2 ++ u.2.2)) (f + fxN cur (r.2.2 ++ u.2.2)) cur (D' + 8) M Mc Mf (fd + 1) hd (by omega) (fun h => by omega) (by omega) o2 hok2.2.1 ⟨N, by assumption, by omega, r2, by omega, r4, by omega, r6⟩ hD
          refine ⟨S5, v, ePrs_more (d := D') hfd q1 p1 t1 (cP_5 hok.1) hk12 o1 s1, ?_⟩
          cases hr2 : px (qK (by1 A) n) F 14 (d + 1) (u.1 + 1) (fd + 1) 0 with
          | none =>
            refine ⟨fun _ => eBN_app hok2 ?_, fun x hx => by cases hx⟩
            have h9 := s2.1 hr2
            rw [e5, x2, g5, v2] at h9
            exact h9
          | some r2' =>
            obtain ⟨j1, j2, j3, j4, j5⟩ := (px_G (qK (by1 A) n) F).2.2.2.2.1 _ _ _ _ _ hr2
            have hB9 := BR_px (N := N) (by assumption) hr2 (by omega) (by omega) j2
            have hb9 := BR_at hB9
            obtain ⟨l1, l2, l3, l4⟩ := q_run (by omega) j2
            have hq3 := q_lt (by1 A) n r2'.1
            refine ⟨fun h => (by cases h), fun x hx => ?_⟩
            injection hx with hx
            subst hx
            obtain ⟨h8, h9⟩ := s2.2 r2' hr2
            have h10 := eON_app hok2 h8 (by omega)
            rw [List.append_assoc] at h10
            exact ⟨h10, h9⟩
        · rw [if_neg hk12]
          obtain ⟨S4, o1, o2, o3, o4⟩ := pass_F (d := D' + 6) (t := 11) hX h0 hok.1 hk11 (by omega)
          rw [x2, g5, v2] at o2
          exact ⟨S4, fd + 1, ePrs_last (d := D') hfd q1 p1 t1 (cP_5 hok.1) hq2.2.2.2.2 hk12 (ePrs_end (by omega) o1), fun _ => eON_bad hok o2 o3 o4 (by omega) (by omega) (by omega), fun x hx => by cases hx⟩
  · -- a fault in the pair
    have hpx : (if 20 ≤ fd then none else (px (qK (by1 A) n) F 0 (d + 1) k 0 0).bind fun r => if qK (by1 A) n r.1 = 13 then (px (qK (by1 A) n) F 0 (d + 1) (r.1 + 1) 0 0).bind fun u => if qK (by1 A) n u.1 = 11 then some (u.1 + 1, fd + 1, r.2.2 ++ u.2.2) else if qK (by1 A) n u.1 = 12 then (px (qK (by1 A) n) F 14 (d + 1) (u.1 + 1) (fd + 1) 0).bind fun s => some (s.1, s.2.1, r.2.2 ++ (u.2.2 ++ s.2.2)) else none else none) = (none : PR) := by
      split
      · rfl
      · rcases hnone with h | ⟨r, h, h13 | h13⟩
        · rw [h]; rfl
        · rw [h]; exact if_neg h13
        · rw [h]
          show (if qK (by1 A) n r.1 = 13 then _ else none) = (none : PR)
          split
          · rw [h13]; rfl
          · rfl
    rw [hpx]
    by_cases hmost : 20 ≤ fd
    · obtain ⟨S4, S5, i1, i2, i3⟩ := hfail hb
      exact ⟨S5, fd + 1, ePrs_last (d := D') (tk := 0) hfd q1 p1 t1 hb.1.1 (by omega) (by omega) (ePrs_much0 (by omega) (by omega) i1 i2), fun _ => i3, fun x hx => by cases hx⟩
    · obtain ⟨S4, i1, i2⟩ := hpb hb
      exact ⟨S4, fd + 1, ePrs_last (d := D') (tk := 0) hfd q1 p1 t1 hb.1.1 (by omega) (by omega) (ePrs_end (by omega) i1), fun _ => i2, fun x hx => by cases hx⟩
/-- pairs: at the bracket -/
def EN (A : Nat → Int32) (n : Nat) (S0 : cS) (z0 fb F : Nat) : Prop := ∀ (d k : Nat) (S : cS) (a c f cur D M Mc Mf : Nat), d ≤ 12 → 16 * (n - qP (by1 A) n k) < F + 4 → (3 ≤ qK (by1 A) n k ∧ qK (by1 A) n k ≠ 19) → cP A n S0 z0 k S → eS S a c f cur → RM (by1 A) n k 0 (40 * (13 - d) - 12) a c f M Mc Mf → 20 + 16 * (13 - d) - 5 ≤ D → ∃ S1 v, Ans D 78 [.ref 44, .int (nI d)] S (some (.int (nI v))) S1 ∧ eOv A n S0 z0 fb S a c f cur k M Mc Mf (if 12 ≤ d then none else px (qK (by1 A) n) F 14 (d + 1) (k + 1) 0 0) v S1
theorem px14_bad {K : Nat → Nat} {d k : Nat} (h : K k = 0) (F : Nat) : px K F 14 d k 0 0 = none := by
  cases F with
  | zero => rfl
  | succ F =>
    show px14 K (px K F) d k 0 = none
    unfold px14
    rw [if_neg (by omega), if_neg (by omega), px_bad h F 0 0 0 (by decide)]
    rfl
theorem EN_s (hX : pX A n S0 z0) (h0 : qK (by1 A) n 0 ≠ 1) (hL : EQ A n S0 z0 fb F) (hF : 1 ≤ F) : EN A n S0 z0 fb F := by
  intro d k S a c f cur D M Mc Mf hd hm hk3 hP hS hR hD
  obtain ⟨N, hBR, r1, r2, r3, r4, r5, r6⟩ := hR
  have hBa := BR_at hBR
  obtain ⟨hk3, hk19⟩ := hk3
  obtain ⟨D', rfl⟩ : ∃ D', D = D' + 9 := ⟨D - 9, by omega⟩
  have hq := q_lt (by1 A) n k
  have hn := hX.1
  obtain ⟨g1, g2, g3, g4, g5, g6⟩ := q_gt (β := by1 A) (n := n) (k := k) hk3
  have hB10 := BR_1 (N := N) (k := k) (by assumption) hk3 (by omega)
  have hb10 := BR_at hB10
  by_cases hd12 : 12 ≤ d
  · rw [if_pos hd12]
    obtain ⟨S1, p1, p2, p3, p4⟩ := deep_F (d := D' - 1) (dp := d) hX h0 hP hd12 hd
    rw [show D' - 1 + 9 = D' + 8 by omega] at p1
    exact ⟨S1, 0, Ans.of (by rw [ml_78]; exact Nat.le_of_ble_eq_true rfl) (Bod.lv (by rfl) (ePrs_no (d := D') p1)), fun _ => eBN_0 p2 hS p3 p4 (by omega) (by omega) (by omega), fun x hx => by cases hx⟩
  · rw [if_neg hd12]
    obtain ⟨S1, v, p1, p2, p3, p4, p5, p6⟩ := deep_T (d := D' - 1) (dp := d) hX hP hk3 (by omega)
    rw [show D' - 1 + 9 = D' + 8 by omega] at p1
    have hS1 := eS_lx p3 hS
    have hk64 := (q_lt (by1 A) n (k + 1)).2.2.2.2
    by_cases hk0 : qK (by1 A) n (k + 1) = 0
    · rw [p5 hk0] at p1
      have hb2 := cP_B hX p2 hk0
      rw [g5] at hb2
      rw [px14_bad hk0]
      exact ⟨S1, 0, Ans.of (by rw [ml_78]; exact Nat.le_of_ble_eq_true rfl) (Bod.lv (by rfl) (ePrs_no (d := D') p1)), fun _ => eBN_0 hb2 hS p3 p4 (by omega) (by omega) (by omega), fun x hx => by cases hx⟩
    · rw [p6 hk0] at p1
      by_cases hkb : qK (by1 A) n (k + 1) = 11
      · obtain ⟨S2, t1, t2, t3, t4⟩ := pass_T (d := D' + 1) hX p2 hkb (by omega)
        obtain ⟨F', rfl⟩ : ∃ F', F = F' + 1 := ⟨F - 1, by omega⟩
        have e : px (qK (by1 A) n) (F' + 1) 14 (d + 1) (k + 1) 0 0 = some (k + 2, 0, []) := by
          show px14 _ _ _ _ _ = _
          unfold px14
          rw [if_pos ⟨rfl, hkb⟩]
        rw [e]
        refine ⟨S2, 0, Ans.of (by rw [ml_78]; exact Nat.le_of_ble_eq_true rfl) (Bod.lv (by rfl) (ePrs_empty (d := D') p1 (cP_5 p2) hk64 hkb (ePrs_end (by omega) t1))), fun h => (by cases h), fun x hx => ?_⟩
        injection hx with hx
        subst hx
        refine ⟨eON_pre p3 p4 (eON_pre t3 t4 ?_), rfl⟩
        have hfx : fxN cur [] = 0 := by unfold fxN; split <;> rfl
        obtain ⟨z, z1, z2, z3, z4⟩ := cP_NT t2
        have hS2 := eS_lx t3 hS1
        exact ⟨t2, by rw [hfx]; exact hS2, ⟨z, c, z1, z2, hS2.2.1, by omega, trivial⟩, fun _ => trivial, ⟨FrT.refl _ _ _ _ _, ⟨fun _ _ => rfl, fun _ _ => ⟨rfl, rfl⟩, fun _ _ => ⟨rfl, rfl⟩⟩, cP_nK t2 rfl (fun _ _ => rfl)⟩⟩
      · obtain ⟨S5, v, s1, s2⟩ := hL d (k + 1) S1 a c f cur (D' + 8) M Mc Mf 0 (by omega) (by omega) (fun _ => hkb) (by omega) p2 hS1 ⟨N, by assumption, by omega, r2, by omega, r4, by omega, r6⟩ (by omega)
        refine ⟨S5, v, Ans.of (by rw [ml_78]; exact Nat.le_of_ble_eq_true rfl) (Bod.lv (by rfl) (ePrs_go (d := D') p1 (cP_5 p2) hk64 hkb s1)), fun hr => ?_, fun x hx => ?_⟩
        · have h9 := eBN_pre p3 p4 (s2.1 hr)
          rw [g5] at h9
          exact h9
        · obtain ⟨h8, h9⟩ := s2.2 x hx
          exact ⟨eON_pre p3 p4 h8, h9⟩
end
