/-! EXPRESSIONS within a statement of the class -/
theorem oC_map {β : Nat → Nat} {n : Nat} {S : cS} {z c fb a s : Nat} {o : Op} (h : oC β n S z c fb a o) : oC β n S z c fb a (tgsc s o) := by
  by_cases hr : 18 ≤ o.1 ∧ o.1 ≤ 21
  · rw [tgs_y hr]
    obtain ⟨h1, h2, h3, h4, h5, h6, h7, h8⟩ := h
    refine ⟨h1, fun e => ?_, h3, fun e => ?_, fun e => ?_, fun e => ?_, fun e => ?_, fun e => ?_⟩
    all_goals (exfalso; dsimp only at e; omega)
  · rw [tgs_n hr]; exact h
theorem lsC_map {β : Nat → Nat} {n : Nat} {S : cS} {z c fb s : Nat} : ∀ (os : List Op) (a : Nat), lsC β n S z c fb a os → lsC β n S z c fb a (os.map (tgsc s)) := by
  intro os
  induction os with
  | nil => intro _ _; trivial
  | cons o r ih =>
    intro a h
    refine ⟨oC_map h.1, ?_⟩
    rw [tgs_lC]
    exact ih _ h.2
theorem fxO_map {s : Nat} {o : Op} : fxO (tgsc s o) = if s = 0 then (if 18 ≤ o.1 ∧ o.1 ≤ 21 then 0 else fxO o) else nmO o := by
  rw [(tgs_cn s o).2]
  by_cases hs : s = 0
  · rw [if_pos hs, if_pos hs]
  · rw [if_neg hs, if_neg hs]
    by_cases hr : 18 ≤ o.1 ∧ o.1 ≤ 21
    · rw [if_pos hr]
    · rw [if_neg hr]
      unfold fxO nmO
      rw [if_neg (fun c => hr ⟨c.1, c.2.1⟩), if_neg hr]
theorem fxS_map {S : cS} {s : Nat} : ∀ (os : List Op) (f a : Nat), (s ≠ 0 → fxC S s f a os) → fxS S f a (os.map (tgsc s)) := by
  intro os
  induction os with
  | nil => intro _ _ _; trivial
  | cons o r ih =>
    intro f a h
    refine ⟨fun h1 => ?_, ?_⟩
    · rw [fxO_map] at h1
      by_cases hs : s = 0
      · rw [if_pos hs] at h1
        split at h1
        · cases h1
        · rename_i hr
          exfalso
          unfold fxO at h1
          rw [if_neg (fun c => hr ⟨c.1, c.2.1⟩)] at h1
          cases h1
      · rw [if_neg hs] at h1
        have hr : 18 ≤ o.1 ∧ o.1 ≤ 21 := by
          unfold nmO at h1
          split at h1
          · rename_i hr; exact hr
          · cases h1
        have h2 := (h hs).1 h1
        rw [tgs_y hr]
        exact h2
    · rw [tgs_lC, fxO_map]
      by_cases hs : s = 0
      · refine ih _ _ (fun h2 => absurd hs h2)
      · rw [if_neg hs]
        exact ih _ _ (fun _ => (h hs).2)
section
variable {A : Nat → Int32} {n z0 fb a0 s ab : Nat} {S0 : cS}
theorem ex_TN (hX : pX A n S0 z0) (h0 : qK (by1 A) n 0 ≠ 1) {k a c f qa qc qf D N : Nat} {sc : SCs} {at' : List Nat} {S : cS} (h : yG A n S0 z0 fb a0 s ab k sc at' a c f S) (hN : BR (by1 A) n N k) (ha : a + 3 * (N - qP (by1 A) n k) + 560 ≤ qa) (haM : qa ≤ 40900) (hc : 2 * c + (N - qP (by1 A) n k) + 1 ≤ 2 * qc) (hcM : qc ≤ 5190) (hf : 2 * f + (N - qP (by1 A) n k) + 1 ≤ 2 * qf) (hfM : qf ≤ 1590) (hD : 240 ≤ D) : ∃ S1, Ans D 57 [.ref 44, .int (nI 0)] S none S1 ∧ xF a c f S S1 ∧ (∀ r, exs (qK (by1 A) n) s k = some r → yOK A n S0 z0 fb a0 s ab S a c f (r.1, r.2.2, sc, at') S1 ∧ sI S1 4403 = nI r.2.1 ∧ (r.2.1 ≠ 0 → sI S1 4404 = nI (a + wC r.2.2 - tl1 r.2.1))) ∧ (exs (qK (by1 A) n) s k = none → (∀ lo, a ≤ lo → yB A n S0 z0 fb (qL (by1 A) n k) a c f ab lo [] qa qc qf sc.2.length sc.1.length (fb + sc.1.length - 1) S S1) ∧ ∃ t, sI S1 2307 = nI t ∧ t ≤ 40960 ∧ tgA S1 a t) := by
  have hn := hX.1
  have hq := q_lt (by1 A) n k
  have hbN := BR_at hN
  have hEA := (EX_all (fb := fb) hX h0 60000).1 0 (by decide) 0 k S a c f s D qa qc qf (by omega) (by have : rkp 0 = 10 := rfl; omega) h.1 h.2.1 ⟨N, hN, by have : rkp 0 = 10 := rfl; omega, haM, hc, hcM, hf, hfM⟩ (by have : rkp 0 = 10 := rfl; omega)
  obtain ⟨S1, p1, p2, p3⟩ := hEA
  have hgo : xF a c f S S1 := by
    cases hr : px (qK (by1 A) n) 60000 0 0 k 0 0 with
    | none => exact (p2 hr).2.2
    | some r => exact (p3 r hr).2.2.2.2.1
  refine ⟨S1, p1, hgo, fun r hr => ?_, fun hr => ?_⟩
  · obtain ⟨r0, h1, rfl⟩ := exs_px hr
    obtain ⟨b1, b2, b3, b4, b5, b6, b7⟩ := p3 r0 h1
    obtain ⟨w1, w2⟩ := map_wC s r0.2.2
    have wf := map_fx s r0.2.2 (px_pg h1)
    obtain ⟨u1, u2, u3, u4, u5⟩ := (px_G (qK (by1 A) n) 60000).1 0 (by decide) _ _ _ _ _ h1
    have hbr := BR_at (BR_px hN h1 (by omega) (by omega) u2)
    obtain ⟨v1, v2, v3, v4⟩ := q_run (by omega) u2
    have hq1 := q_lt (by1 A) n r0.1
    have hfx := fxN_le s r0.2.2
    have hF := b5.1
    have hnK := b5.2.2
    obtain ⟨h1', h2, h3, h4, h5, h6, h7, h8, h9, h10, h11, h12, ⟨tr, lt, h13, h13b, h13c, h13d⟩, h14, h15, h16, h17, h18, h19⟩ := h
    have a1 : ∀ x, x ∈ [27, 29, 30, 33, 34, 35, 36, 37, 38, 40] → x ∉ [19, 20, 24, 41, 42] := by decide
    have hfs : fxS S1 f a (r0.2.2.map (tgsc s)) := fxS_map r0.2.2 f a b4
    dsimp only
    refine ⟨⟨?_, ?_, hfs, yF_x b5, ?_, ?_⟩, b6, fun hg => ?_⟩
    · dsimp only
      rw [w1, w2, wf]
      refine ⟨b1, b2, (hF.1 _ (by decide)).trans h3, (hF.1 _ (by decide)).trans h4, (hF.1 _ (by decide)).trans h5, yS_S h6 hnK (fun x hx => hF.2.2.1 x (a1 x hx)), fun i i1 i2 => by rw [hF.2.2.1 28 (by decide)]; exact h7 i i1 i2, h8, h9, yAt_S h10 hnK (hF.1 _ (by decide)) (hF.2.2.1 45 (by decide)), (hF.1 _ (by decide)).trans h11, fun i hi => ?_, ⟨tr, lt, (hF.1 _ (by decide)).trans h13, (hF.1 _ (by decide)).trans h13b, h13c, h13d⟩, by omega, by omega, by omega, h17, h18, h19⟩
      rcases Nat.lt_or_ge i f with h20 | h20
      · obtain ⟨p, q1, q2⟩ := h12 i h20
        exact ⟨p, by rw [(b5.2.1.2.2 i h20).1]; exact q1, by omega⟩
      · obtain ⟨p, q1, q2, q3⟩ := fxS_B _ _ _ (fun o _ ho => by have := fxO_l ho; omega) hfs i h20 (by rw [wf]; exact hi)
        rw [w1] at q3
        exact ⟨p, q1, q3⟩
    · dsimp only
      obtain ⟨z, c', i1, i2, i3, i4, i5⟩ := b3
      exact ⟨z, c', i1, i2, i3, i4, lsC_map r0.2.2 a i5⟩
    · have e : bks a (r0.2.2.map (tgsc s)) = [] := bks_no a (fun o ho => by
        obtain ⟨o0, ho0, rfl⟩ := List.mem_map.mp ho
        rw [tgs_1]
        have := px_pg h1 o0 ho0
        unfold pg at this
        omega)
      dsimp only
      rw [e]
      exact hF.1 _ (by decide)
    · have e : bks a (r0.2.2.map (tgsc s)) = [] := bks_no a (fun o ho => by
        obtain ⟨o0, ho0, rfl⟩ := List.mem_map.mp ho
        rw [tgs_1]
        have := px_pg h1 o0 ho0
        unfold pg at this
        omega)
      dsimp only
      rw [e]
      trivial
    · rw [w1]; exact b7 hg
  · obtain ⟨b1, ⟨x, y, w, b2, b3, b4, b5, b6, b7, b8, b10⟩, b9⟩ := p2 (exs_none.mp hr)
    have hF := b9.1
    have hC := yG_C hn h (Nat.le_refl a) (Nat.le_refl c) (Nat.le_refl f) rfl
    have hV := yG_V h
    obtain ⟨a', c', f', s', e, sn, fn, av, tv, lv, l', g1, g2, g3, g4, g5, g6, g7, g8, g9, gfl, glo, gg1, gg2, gg3, gg4, gg5, gg6, gg7, gg8, gg9, gg10⟩ := hC
    refine ⟨fun lo hlo => ⟨b1, ⟨x, y, w, s, e, sn, fn, av, tv, lv, l', b2, (hF.1 _ (by decide)).trans g2, (hF.1 _ (by decide)).trans g3, (hF.1 _ (by decide)).trans g4, (hF.1 _ (by decide)).trans g5, (hF.1 _ (by decide)).trans g6, (hF.1 _ (by decide)).trans g7, (hF.1 _ (by decide)).trans g8, by rw [hF.1 _ (by decide)]; exact g9, (hF.1 _ (by decide)).trans gfl, by omega, by omega, by omega, by omega, gg4, gg5, gg6, gg7, gg8, gg9, gg10⟩, yF_x b9, ⟨[], x, b2.1, by omega, hF.1 _ (by decide), trivial, fun p hp => by cases hp⟩, hlo, yV_F hV hF (by decide) (by decide)⟩, x, b2.1, by omega, b10⟩
theorem ex_T (hX : pX A n S0 z0) (h0 : qK (by1 A) n 0 ≠ 1) {k a c f qa qc qf D : Nat} {sc : SCs} {at' : List Nat} {S : cS} (h : yG A n S0 z0 fb a0 s ab k sc at' a c f S) (ha : a + 3 * (n - qP (by1 A) n k) + 560 ≤ qa) (haM : qa ≤ 40900) (hc : 2 * c + (n - qP (by1 A) n k) + 1 ≤ 2 * qc) (hcM : qc ≤ 5190) (hf : 2 * f + (n - qP (by1 A) n k) + 1 ≤ 2 * qf) (hfM : qf ≤ 1590) (hD : 240 ≤ D) : ∃ S1, Ans D 57 [.ref 44, .int (nI 0)] S none S1 ∧ xF a c f S S1 ∧ (∀ r, exs (qK (by1 A) n) s k = some r → yOK A n S0 z0 fb a0 s ab S a c f (r.1, r.2.2, sc, at') S1 ∧ sI S1 4403 = nI r.2.1 ∧ (r.2.1 ≠ 0 → sI S1 4404 = nI (a + wC r.2.2 - tl1 r.2.1))) ∧ (exs (qK (by1 A) n) s k = none → (∀ lo, a ≤ lo → yB A n S0 z0 fb (qL (by1 A) n k) a c f ab lo [] qa qc qf sc.2.length sc.1.length (fb + sc.1.length - 1) S S1) ∧ ∃ t, sI S1 2307 = nI t ∧ t ≤ 40960 ∧ tgA S1 a t) :=
  ex_TN hX h0 h (BR_n _ _ _) ha haM hc hcM hf hfM hD
end
