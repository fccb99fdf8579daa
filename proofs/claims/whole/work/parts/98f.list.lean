/-! THE RULES OF EXPR IN THE CLASS: values in brackets -/
section
variable {A : Nat → Int32} {n z0 fb F : Nat} {S0 : cS}
/-- as eOK, eBD, but for the target -/
def eON (A : Nat → Int32) (n : Nat) (S0 : cS) (z0 fb : Nat) (S : cS) (a c f cur k1 : Nat) (os : List Op) (S1 : cS) : Prop := cP A n S0 z0 k1 S1 ∧ eS S1 (a + wC os) (c + cnN os) (f + fxN cur os) cur ∧ cd (by1 A) n S1 fb a os ∧ (cur ≠ 0 → fxC S1 cur f a os) ∧ xF a c f S S1
def eBN (A : Nat → Int32) (n : Nat) (S0 : cS) (z0 : Nat) (S : cS) (a c f cur l M Mc Mf : Nat) (S1 : cS) : Prop := cB A n S0 z0 l S1 ∧ (∃ a1 c1 f1, eS S1 a1 c1 f1 cur ∧ a ≤ a1 ∧ a1 ≤ M ∧ c ≤ c1 ∧ c1 ≤ Mc ∧ f ≤ f1 ∧ f1 ≤ Mf) ∧ xF a c f S S1
theorem eOK_N {S S1 : cS} {a c f cur k g : Nat} {os : List Op} (h : eOK A n S0 z0 fb S a c f cur k g os S1) : eON A n S0 z0 fb S a c f cur k os S1 := ⟨h.1, h.2.1, h.2.2.1, h.2.2.2.1, h.2.2.2.2.1⟩
theorem eBD_N {S S1 : cS} {a c f cur l M Mc Mf : Nat} (h : eBD A n S0 z0 S a c f cur l M Mc Mf S1) : eBN A n S0 z0 S a c f cur l M Mc Mf S1 := by
  obtain ⟨b1, ⟨x, y, w, b2, b3, b4, b5, b6, b7, b8, b10⟩, b9⟩ := h
  exact ⟨b1, ⟨x, y, w, b2, b3, b4, b5, b6, b7, b8⟩, b9⟩
theorem eON_OK {a c f cur k1 k2 g2 : Nat} {S S1 S2 : cS} {o1 o2 : List Op} (h : eON A n S0 z0 fb S a c f cur k1 o1 S1) (g : eOK A n S0 z0 fb S1 (a + wC o1) (c + cnN o1) (f + fxN cur o1) cur k2 g2 o2 S2) (hc : c + cnN o1 + cnN o2 ≤ 5200) : eOK A n S0 z0 fb S a c f cur k2 g2 (o1 ++ o2) S2 := by
  obtain ⟨a1, a2, a3, a4, a5⟩ := h
  obtain ⟨b1, b2, b3, b4, b5, b6, b7⟩ := g
  refine ⟨b1, by rw [wC_app, cnN_app, fxN_app, ← Nat.add_assoc, ← Nat.add_assoc, ← Nat.add_assoc]; exact b2, cd_app (cd_mono a3 b5 (Nat.le_refl _) a2.2.1 (by omega) b2.2.1 (by omega) (by omega)) b3, fun hc => ?_, xF_trans a5 b5 (by omega) (by omega) (by omega), b6, fun hg => by rw [wC_app, ← Nat.add_assoc]; exact b7 hg⟩
  have e : fxN cur o1 = nmN o1 := if_neg hc
  rw [e] at b4 b5
  exact (fxC_app o1 f a).mpr ⟨fxC_mono o1 f a b5.2.1.2.2 (Nat.le_refl _) (a4 hc), b4 hc⟩
theorem eON_app {a c f cur k1 k2 : Nat} {S S1 S2 : cS} {o1 o2 : List Op} (h : eON A n S0 z0 fb S a c f cur k1 o1 S1) (g : eON A n S0 z0 fb S1 (a + wC o1) (c + cnN o1) (f + fxN cur o1) cur k2 o2 S2) (hc : c + cnN o1 + cnN o2 ≤ 5200) : eON A n S0 z0 fb S a c f cur k2 (o1 ++ o2) S2 := by
  obtain ⟨a1, a2, a3, a4, a5⟩ := h
  obtain ⟨b1, b2, b3, b4, b5⟩ := g
  refine ⟨b1, by rw [wC_app, cnN_app, fxN_app, ← Nat.add_assoc, ← Nat.add_assoc, ← Nat.add_assoc]; exact b2, cd_app (cd_mono a3 b5 (Nat.le_refl _) a2.2.1 (by omega) b2.2.1 (by omega) (by omega)) b3, fun hc => ?_, xF_trans a5 b5 (by omega) (by omega) (by omega)⟩
  have e : fxN cur o1 = nmN o1 := if_neg hc
  rw [e] at b4 b5
  exact (fxC_app o1 f a).mpr ⟨fxC_mono o1 f a b5.2.1.2.2 (Nat.le_refl _) (a4 hc), b4 hc⟩
theorem eBN_app {a c f cur k1 l M Mc Mf : Nat} {S S1 S2 : cS} {o1 : List Op} (h : eON A n S0 z0 fb S a c f cur k1 o1 S1) (g : eBN A n S0 z0 S1 (a + wC o1) (c + cnN o1) (f + fxN cur o1) cur l M Mc Mf S2) : eBN A n S0 z0 S a c f cur l M Mc Mf S2 := by
  obtain ⟨a1, a2, a3, a4, a5⟩ := h
  obtain ⟨b1, ⟨x, y, w, b2, b3, b4, b5, b6, b7, b8⟩, b9⟩ := g
  exact ⟨b1, ⟨x, y, w, b2, by omega, b4, by omega, b6, by omega, b8⟩, xF_trans a5 b9 (by omega) (by omega) (by omega)⟩
theorem eON_pre {S S1 S2 : cS} {a c f cur k : Nat} {os : List Op} (hF : FrT lxI lxJ [19, 20] [17, 18] S S1) (hn : nK S S1) (h : eON A n S0 z0 fb S1 a c f cur k os S2) : eON A n S0 z0 fb S a c f cur k os S2 :=
  ⟨h.1, h.2.1, h.2.2.1, h.2.2.2.1, xF_trans (xF_lx (a := a) (c := c) (f := f) hF hn) h.2.2.2.2 (Nat.le_refl _) (Nat.le_refl _) (Nat.le_refl _)⟩
theorem eBN_pre {S S1 S2 : cS} {a c f cur l M Mc Mf : Nat} (hF : FrT lxI lxJ [19, 20] [17, 18] S S1) (hn : nK S S1) (h : eBN A n S0 z0 S1 a c f cur l M Mc Mf S2) : eBN A n S0 z0 S a c f cur l M Mc Mf S2 :=
  ⟨h.1, h.2.1, xF_trans (xF_lx (a := a) (c := c) (f := f) hF hn) h.2.2 (Nat.le_refl _) (Nat.le_refl _) (Nat.le_refl _)⟩
theorem eON_lx {S S1 S2 : cS} {a c f cur k k2 : Nat} {os : List Op} (h : eON A n S0 z0 fb S a c f cur k os S1) (hc : c + cnN os ≤ 5200) (hP : cP A n S0 z0 k2 S2) (hF : FrT lxI lxJ [19, 20] [17, 18] S1 S2) (hn : nK S1 S2) : eON A n S0 z0 fb S a c f cur k2 os S2 := by
  obtain ⟨a1, a2, a3, a4, a5⟩ := h
  have hx : xF (a + wC os) (c + cnN os) (f + fxN cur os) S1 S2 := xF_lx hF hn
  refine ⟨hP, eS_lx hF a2, cd_mono a3 hx (Nat.le_refl _) a2.2.1 hc ((eS_lx hF a2).2.1) hc (Nat.le_refl _), fun hcur => ?_, xF_trans a5 hx (by omega) (by omega) (by omega)⟩
  have e : fxN cur os = nmN os := if_neg hcur
  exact fxC_mono os f a hx.2.1.2.2 (by omega) (a4 hcur)
theorem eBN_lx {a c f cur l M Mc Mf : Nat} {S S1 S2 : cS} (h : eBN A n S0 z0 S a c f cur l M Mc Mf S1) (g : cB A n S0 z0 l S2) (hF : FrT lxI lxJ [19, 20] [17, 18] S1 S2) (hn : nK S1 S2) : eBN A n S0 z0 S a c f cur l M Mc Mf S2 := by
  obtain ⟨b1, ⟨x, y, w, b2, b3, b4, b5, b6, b7, b8⟩, b9⟩ := h
  exact ⟨g, ⟨x, y, w, eS_lx hF b2, b3, b4, b5, b6, b7, b8⟩, xF_trans b9 (xF_lx (a := a) (c := c) (f := f) hF hn) (Nat.le_refl _) (Nat.le_refl _) (Nat.le_refl _)⟩
/-- a good way so far, and then a fault -/
theorem eON_bad {S S1 S2 : cS} {a c f cur k l M Mc Mf : Nat} {os : List Op} (h : eON A n S0 z0 fb S a c f cur k os S1) (hB : cB A n S0 z0 l S2) (hF : FrT lxI lxJ [19, 20] [17, 18] S1 S2) (hn : nK S1 S2) (hM : a + wC os ≤ M) (hMc : c + cnN os ≤ Mc) (hMf : f + fxN cur os ≤ Mf) : eBN A n S0 z0 S a c f cur l M Mc Mf S2 := by
  obtain ⟨a1, a2, a3, a4, a5⟩ := h
  exact ⟨hB, ⟨a + wC os, c + cnN os, f + fxN cur os, eS_lx hF a2, by omega, hM, by omega, hMc, by omega, hMf⟩, xF_trans a5 (xF_lx (a := a) (c := c) (f := f) hF hn) (Nat.le_refl _) (Nat.le_refl _) (Nat.le_refl _)⟩
theorem eBN_0 {S S1 : cS} {a c f cur l : Nat} (hB : cB A n S0 z0 l S1) (hS : eS S a c f cur) (hF : FrT lxI lxJ [19, 20] [17, 18] S S1) (hn : nK S S1) {M Mc Mf : Nat} (hM : a ≤ M) (hMc : c ≤ Mc) (hMf : f ≤ Mf) : eBN A n S0 z0 S a c f cur l M Mc Mf S1 := ⟨hB, ⟨a, c, f, eS_lx hF hS, Nat.le_refl _, hM, Nat.le_refl _, hMc, Nat.le_refl _, hMf⟩, xF_lx hF hn⟩
theorem eBN_le {a c f cur l M Mc Mf M1 Mc1 Mf1 : Nat} {S S1 : cS} (h : eBN A n S0 z0 S a c f cur l M Mc Mf S1) (h1 : M ≤ M1) (h2 : Mc ≤ Mc1) (h3 : Mf ≤ Mf1) : eBN A n S0 z0 S a c f cur l M1 Mc1 Mf1 S1 := by
  obtain ⟨b1, ⟨x, y, w, b2, b3, b4, b5, b6, b7, b8⟩, b9⟩ := h
  exact ⟨b1, ⟨x, y, w, b2, b3, by omega, b5, by omega, b7, by omega⟩, b9⟩
/-- the outcome of values in brackets: so many -/
def eOv (A : Nat → Int32) (n : Nat) (S0 : cS) (z0 fb : Nat) (S : cS) (a c f cur k M Mc Mf : Nat) (r : PR) (v : Nat) (S1 : cS) : Prop := (r = none → eBN A n S0 z0 S a c f cur (qL (by1 A) n k) M Mc Mf S1) ∧ ∀ x, r = some x → eON A n S0 z0 fb S a c f cur x.1 x.2.2 S1 ∧ v = x.2.1
def lvL (d b fd mo : Nat) : sm_L := [(5, .int (nI mo)), (4, .int (nI fd)), (0, .ref 44), (1, .int (nI d)), (2, .int (nI b)), (3, .int (nI (most b)))]
def EL (A : Nat → Int32) (n : Nat) (S0 : cS) (z0 fb F : Nat) : Prop := ∀ (d k : Nat) (S : cS) (a c f cur D M Mc Mf fd b : Nat), (b = 7 ∨ b = 9) → d ≤ 11 → 16 * (n - qP (by1 A) n k) + 12 < F → (fd = 0 → qK (by1 A) n k ≠ b) → fd ≤ most b → cP A n S0 z0 k S → eS S a c f cur → RM (by1 A) n k 1 (40 * (13 - d) - 16) a c f M Mc Mf → 20 + 16 * (13 - d) - 6 ≤ D → ∃ S1 v, Bod D 76 31 (lvL d b fd 1) [] S (some (.int (nI v))) S1 ∧ eOv A n S0 z0 fb S a c f cur k M Mc Mf (px (qK (by1 A) n) F 13 (d + 1) k fd b) v S1
theorem most_le (b : Nat) : 1 ≤ most b ∧ most b ≤ 40 := by
  unfold most
  repeat' split
  all_goals omega
theorem EL_s (hX : pX A n S0 z0) (h0 : qK (by1 A) n 0 ≠ 1) (hA : EA A n S0 z0 fb F) (hL : EL A n S0 z0 fb F) : EL A n S0 z0 fb (F + 1) := by
  intro d k S a c f cur D M Mc Mf fd b hb hd hm hkb hfd hP hS hR hD
  obtain ⟨N, hBR, r1, r2, r3, r4, r5, r6⟩ := hR
  have hBa := BR_at hBR
  obtain ⟨D', rfl⟩ : ∃ D', D = D' + 8 := ⟨D - 8, by omega⟩
  have hq := q_lt (by1 A) n k
  have hn := hX.1
  have hmo := most_le b
  have et : rkp 0 = 10 := rfl
  show ∃ S1 v, _ ∧ eOv A n S0 z0 fb S a c f cur k M Mc Mf (px13 (qK (by1 A) n) (px (qK (by1 A) n) F) (d + 1) k fd b) v S1
  unfold px13
  rw [if_neg (fun h => hkb h.1 h.2)]
  obtain ⟨S1, q1, q2⟩ := hA 0 (by decide) (d + 1) k S a c f cur (D' + 8) M Mc Mf (by omega) (by omega) hP hS ⟨N, by assumption, by omega, r2, by omega, r4, by omega, r6⟩ (by omega)
  have q1' : Ans (D' + 8) 57 [.ref 44, .int (nI (d + 1))] S none S1 := q1
  have hb64 : b < 64 := by omega
  have hpb : ∀ {S2 : cS}, eBN A n S0 z0 S a c f cur (qL (by1 A) n k) M Mc Mf S2 → ∃ S3, Ans (D' + 8) 75 [.ref 31, .int (nI b)] S2 none S3 ∧ eBN A n S0 z0 S a c f cur (qL (by1 A) n k) M Mc Mf S3 := fun {S2} hb2 => by
    obtain ⟨S3, t1, t2, t3, t4⟩ := pass_B (d := D' + 6) hb2.1 (t := b) (by omega) (by omega)
    exact ⟨S3, t1, eBN_lx hb2 t2 t3 t4⟩
  by_cases hmost : most b ≤ fd
  · rw [if_pos hmost]
    obtain rfl : fd = most b := by omega
    -- one too many
    have hfail : ∀ {S2 : cS}, eBN A n S0 z0 S a c f cur (qL (by1 A) n k) M Mc Mf S2 → ∃ S3 S4, Ans (D' + 8) 44 [.ref 31] S2 none S3 ∧ Ans (D' + 8) 75 [.ref 31, .int (nI b)] S3 none S4 ∧ eBN A n S0 z0 S a c f cur (qL (by1 A) n k) M Mc Mf S4 := fun {S2} hb2 => by
      obtain ⟨S3, t1, t2, t3, t4⟩ := fail_B (d := D' + 7) hb2.1
      obtain ⟨S4, t5, t6⟩ := hpb (eBN_lx hb2 t2 t3 t4)
      exact ⟨S3, S4, t1, t5, t6⟩
    cases hr : px (qK (by1 A) n) F 0 (d + 1) k 0 0 with
    | none =>
      have hb2 := eBD_N (q2.1 hr)
      obtain ⟨S3, S4, t1, t2, t3⟩ := hfail hb2
      exact ⟨S4, most b + 1, eLst_last (d := D') (tk := 0) hb64 (by omega) hfd q1' hb2.1.1 (by omega) (by omega) (eLst_much0 hb64 (by omega) (by omega) (by omega) t1 t2), fun _ => t3, fun x hx => by cases hx⟩
    | some r1 =>
      have hok := eOK_N (q2.2 r1 hr)
      obtain ⟨u1, u2, u3, u4, u5⟩ := (px_G (qK (by1 A) n) F).1 0 (by decide) _ _ _ _ _ hr
      have hB1 := BR_px (N := N) (by assumption) hr (by omega) (by omega) u2
      have hb1 := BR_at hB1
      obtain ⟨v1, v2, v3, v4⟩ := q_run (by omega) u2
      have hq1 := q_lt (by1 A) n r1.1
      have hfx := fxN_le cur r1.2.2
      by_cases hk12 : qK (by1 A) n r1.1 = 12
      · obtain ⟨S2, p1, p2, p3, p4⟩ := pass_T (d := D' + 1) hX hok.1 hk12 (by omega)
        obtain ⟨g1, g2, g3, g4, g5, g6⟩ := q_gt (β := by1 A) (n := n) (k := r1.1) (by omega)
        have hB2 := BR_1 (N := N) (k := r1.1) (by assumption) (by omega) (by omega)
        have hb2 := BR_at hB2
        have hok2 := eON_lx hok (by omega) p2 p3 p4
        obtain ⟨S3, t1, t2, t3, t4⟩ := fail_T (d := D' + 7) hX h0 p2
        rw [g5, v2] at t2
        obtain ⟨S4, t5, t6⟩ := hpb (eON_bad hok2 t2 t3 t4 (by omega) (by omega) (by omega))
        have h5 := cP_5 hok.1
        rw [hk12] at h5
        exact ⟨S4, most b + 1, eLst_more (d := D') hb64 (by omega) hfd q1' h5 p1 (eLst_much1 hb64 (by omega) (by omega) (by omega) t1 t5), fun _ => t6, fun x hx => by cases hx⟩
      · obtain ⟨S3, t1, t2, t3, t4⟩ := fail_T (d := D' + 7) hX h0 hok.1
        rw [v2] at t2
        obtain ⟨S4, t5, t6⟩ := hpb (eON_bad hok t2 t3 t4 (by omega) (by omega) (by omega))
        exact ⟨S4, most b + 1, eLst_last (d := D') hb64 (by omega) hfd q1' (cP_5 hok.1) hq1.2.2.2.2 hk12 (eLst_much0 hb64 (by omega) (by omega) (by omega) t1 t5), fun _ => t6, fun x hx => by cases hx⟩
  · rw [if_neg hmost]
    cases hr : px (qK (by1 A) n) F 0 (d + 1) k 0 0 with
    | none =>
      have hb2 := eBD_N (q2.1 hr)
      obtain ⟨S4, t5, t6⟩ := hpb hb2
      exact ⟨S4, fd + 1, eLst_last (d := D') (tk := 0) hb64 (by omega) hfd q1' hb2.1.1 (by omega) (by omega) (eLst_end hb64 (by omega) (by omega) t5), fun _ => t6, fun x hx => by cases hx⟩
    | some r1 =>
      have hok := eOK_N (q2.2 r1 hr)
      obtain ⟨u1, u2, u3, u4, u5⟩ := (px_G (qK (by1 A) n) F).1 0 (by decide) _ _ _ _ _ hr
      have hB3 := BR_px (N := N) (by assumption) hr (by omega) (by omega) u2
      have hb3 := BR_at hB3
      obtain ⟨v1, v2, v3, v4⟩ := q_run (by omega) u2
      have hq1 := q_lt (by1 A) n r1.1
      have hfx := fxN_le cur r1.2.2
      show ∃ S1 v, _ ∧ eOv A n S0 z0 fb S a c f cur k M Mc Mf (if qK (by1 A) n r1.1 = b then some (r1.1 + 1, fd + 1, r1.2.2) else if qK (by1 A) n r1.1 = 12 then (px (qK (by1 A) n) F 13 (d + 1) (r1.1 + 1) (fd + 1) b).bind fun s => some (s.1, s.2.1, r1.2.2 ++ s.2.2) else none) v S1
      by_cases hkb1 : qK (by1 A) n r1.1 = b
      · rw [if_pos hkb1]
        obtain ⟨S2, p1, p2, p3, p4⟩ := pass_T (d := D' + 1) hX hok.1 hkb1 (by omega)
        refine ⟨S2, fd + 1, eLst_last (d := D') hb64 (by omega) hfd q1' (cP_5 hok.1) hq1.2.2.2.2 (by omega) (eLst_end hb64 (by omega) (by omega) p1), fun h => by (cases h), fun x hx => ?_⟩
        injection hx with hx
        subst hx
        exact ⟨eON_lx hok (by show c + cnN r1.2.2 ≤ 5200; omega) p2 p3 p4, rfl⟩
      · rw [if_neg hkb1]
        by_cases hk12 : qK (by1 A) n r1.1 = 12
        · rw [if_pos hk12]
          obtain ⟨S2, p1, p2, p3, p4⟩ := pass_T (d := D' + 1) hX hok.1 hk12 (by omega)
          obtain ⟨g1, g2, g3, g4, g5, g6⟩ := q_gt (β := by1 A) (n := n) (k := r1.1) (by omega)
          have hB4 := BR_1 (N := N) (k := r1.1) (by assumption) (by omega) (by omega)
          have hb4 := BR_at hB4
          have hok2 := eON_lx hok (by omega) p2 p3 p4
          obtain ⟨S5, v, s1, s2⟩ := hL d (r1.1 + 1) S2 (a + wC r1.2.2) (c + cnN r1.2.2) (f + fxN cur r1.2.2) cur (D' + 8) M Mc Mf (fd + 1) b hb hd (by omega) (fun h => by omega) (by omega) p2 hok2.2.1 ⟨N, by assumption, by omega, r2, by omega, r4, by omega, r6⟩ hD
          have h5 := cP_5 hok.1
          rw [hk12] at h5
          refine ⟨S5, v, eLst_more (d := D') hb64 (by omega) hfd q1' h5 p1 s1, ?_⟩
          cases hr2 : px (qK (by1 A) n) F 13 (d + 1) (r1.1 + 1) (fd + 1) b with
          | none =>
            refine ⟨fun _ => eBN_app hok2 ?_, fun x hx => by cases hx⟩
            have h9 := s2.1 hr2
            rw [g5, v2] at h9
            exact h9
          | some r2' =>
            obtain ⟨y1, y2, y3, y4, y5⟩ := (px_G (qK (by1 A) n) F).2.2.2.1 _ _ _ _ _ (by omega) hr2
            have hB5 := BR_px (N := N) (by assumption) hr2 (by omega) (by omega) y2
            have hb5 := BR_at hB5
            obtain ⟨x1, x2, x3, x4⟩ := q_run (by omega) y2
            have hq2 := q_lt (by1 A) n r2'.1
            refine ⟨fun h => (by cases h), fun x hx => ?_⟩
            injection hx with hx
            subst hx
            obtain ⟨h8, h9⟩ := s2.2 r2' hr2
            exact ⟨eON_app hok2 h8 (by omega), h9⟩
        · rw [if_neg hk12]
          obtain ⟨S3, t1, t2, t3, t4⟩ := pass_F (d := D' + 6) (t := b) hX h0 hok.1 hkb1 (by omega)
          rw [v2] at t2
          exact ⟨S3, fd + 1, eLst_last (d := D') hb64 (by omega) hfd q1' (cP_5 hok.1) hq1.2.2.2.2 hk12 (eLst_end hb64 (by omega) (by omega) t1), fun _ => eON_bad hok t2 t3 t4 (by omega) (by omega) (by omega), fun x hx => by cases hx⟩
/-- values in brackets: at the bracket -/
def EM (A : Nat → Int32) (n : Nat) (S0 : cS) (z0 fb F : Nat) : Prop := ∀ (d k : Nat) (S : cS) (a c f cur D M Mc Mf b : Nat), (b = 7 ∨ b = 9) → d ≤ 12 → 16 * (n - qP (by1 A) n k) < F + 4 → (3 ≤ qK (by1 A) n k ∧ qK (by1 A) n k ≠ 19) → cP A n S0 z0 k S → eS S a c f cur → RM (by1 A) n k 0 (40 * (13 - d) - 12) a c f M Mc Mf → 20 + 16 * (13 - d) - 5 ≤ D → ∃ S1 v, Ans D 76 [.ref 44, .int (nI d), .int (nI b), .int (nI (most b))] S (some (.int (nI v))) S1 ∧ eOv A n S0 z0 fb S a c f cur k M Mc Mf (if 12 ≤ d then none else px (qK (by1 A) n) F 13 (d + 1) (k + 1) 0 b) v S1
theorem px13_bad {K : Nat → Nat} {d k b : Nat} (h : K k = 0) (hb : 3 ≤ b) (F : Nat) : px K F 13 d k 0 b = none := by
  cases F with
  | zero => rfl
  | succ F =>
    show px13 K (px K F) d k 0 b = none
    have := most_le b
    unfold px13
    rw [if_neg (by omega), if_neg (by omega), px_bad h F 0 0 0 (by decide)]
    rfl
theorem EM_s (hX : pX A n S0 z0) (h0 : qK (by1 A) n 0 ≠ 1) (hL : EL A n S0 z0 fb F) (hF : 1 ≤ F) : EM A n S0 z0 fb F := by
  intro d k S a c f cur D M Mc Mf b hb hd hm hk3 hP hS hR hD
  obtain ⟨N, hBR, r1, r2, r3, r4, r5, r6⟩ := hR
  have hBa := BR_at hBR
  obtain ⟨hk3, hk19⟩ := hk3
  obtain ⟨D', rfl⟩ : ∃ D', D = D' + 9 := ⟨D - 9, by omega⟩
  have hq := q_lt (by1 A) n k
  have hn := hX.1
  have hmo := most_le b
  obtain ⟨g1, g2, g3, g4, g5, g6⟩ := q_gt (β := by1 A) (n := n) (k := k) hk3
  have hB6 := BR_1 (N := N) (k := k) (by assumption) hk3 (by omega)
  have hb6 := BR_at hB6
  by_cases hd12 : 12 ≤ d
  · rw [if_pos hd12]
    obtain ⟨S1, p1, p2, p3, p4⟩ := deep_F (d := D' - 1) (dp := d) hX h0 hP hd12 hd
    rw [show D' - 1 + 9 = D' + 8 by omega] at p1
    exact ⟨S1, 0, Ans.of (by rw [ml_76]; exact Nat.le_of_ble_eq_true rfl) (Bod.lv (by rfl) (eLst_no (d := D') p1)), fun _ => eBN_0 p2 hS p3 p4 (by omega) (by omega) (by omega), fun x hx => by cases hx⟩
  · rw [if_neg hd12]
    obtain ⟨S1, v, p1, p2, p3, p4, p5, p6⟩ := deep_T (d := D' - 1) (dp := d) hX hP hk3 (by omega)
    rw [show D' - 1 + 9 = D' + 8 by omega] at p1
    have hS1 := eS_lx p3 hS
    have hk64 := (q_lt (by1 A) n (k + 1)).2.2.2.2
    by_cases hk0 : qK (by1 A) n (k + 1) = 0
    · rw [p5 hk0] at p1
      have hb2 := cP_B hX p2 hk0
      rw [g5] at hb2
      rw [px13_bad hk0 (by omega)]
      exact ⟨S1, 0, Ans.of (by rw [ml_76]; exact Nat.le_of_ble_eq_true rfl) (Bod.lv (by rfl) (eLst_no (d := D') p1)), fun _ => eBN_0 hb2 hS p3 p4 (by omega) (by omega) (by omega), fun x hx => by cases hx⟩
    · rw [p6 hk0] at p1
      by_cases hkb : qK (by1 A) n (k + 1) = b
      · obtain ⟨S2, t1, t2, t3, t4⟩ := pass_T (d := D' + 1) hX p2 hkb (by omega)
        obtain ⟨F', rfl⟩ : ∃ F', F = F' + 1 := ⟨F - 1, by omega⟩
        have e : px (qK (by1 A) n) (F' + 1) 13 (d + 1) (k + 1) 0 b = some (k + 2, 0, []) := by
          show px13 _ _ _ _ _ _ = _
          unfold px13
          rw [if_pos ⟨rfl, hkb⟩]
        rw [e]
        refine ⟨S2, 0, Ans.of (by rw [ml_76]; exact Nat.le_of_ble_eq_true rfl) (Bod.lv (by rfl) (eLst_empty (d := D') (by omega) (by omega) p1 (cP_5 p2) hk64 hkb (eLst_end (by omega) (by omega) (by omega) t1))), fun h => (by cases h), fun x hx => ?_⟩
        injection hx with hx
        subst hx
        refine ⟨eON_pre p3 p4 (eON_pre t3 t4 ?_), rfl⟩
        have hfx : fxN cur [] = 0 := by unfold fxN; split <;> rfl
        obtain ⟨z, z1, z2, z3, z4⟩ := cP_NT t2
        have hS2 := eS_lx t3 hS1
        exact ⟨t2, by rw [hfx]; exact hS2, ⟨z, c, z1, z2, hS2.2.1, by omega, trivial⟩, fun _ => trivial, ⟨FrT.refl _ _ _ _ _, ⟨fun _ _ => rfl, fun _ _ => ⟨rfl, rfl⟩, fun _ _ => ⟨rfl, rfl⟩⟩, cP_nK t2 rfl (fun _ _ => rfl)⟩⟩
      · obtain ⟨S5, v, s1, s2⟩ := hL d (k + 1) S1 a c f cur (D' + 8) M Mc Mf 0 b hb (by omega) (by omega) (fun _ => hkb) (by omega) p2 hS1 ⟨N, by assumption, by omega, r2, by omega, r4, by omega, r6⟩ (by omega)
        refine ⟨S5, v, Ans.of (by rw [ml_76]; exact Nat.le_of_ble_eq_true rfl) (Bod.lv (by rfl) (eLst_go (d := D') (by omega) (by omega) p1 (cP_5 p2) hk64 hkb s1)), fun hr => ?_, fun x hx => ?_⟩
        · have h9 := eBN_pre p3 p4 (s2.1 hr)
          rw [g5] at h9
          exact h9
        · obtain ⟨h8, h9⟩ := s2.2 x hx
          exact ⟨eON_pre p3 p4 h8, h9⟩
end
