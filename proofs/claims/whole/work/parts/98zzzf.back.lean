/-! BINDING in the class: what was put is taken back -/
section
variable {d : Nat}
theorem fgt_L {f a : Nat} (ha : a < 2 ^ 20) : ∀ (m : Nat) (T : cS), sI T 3214 = nI (f + m) → f + m ≤ 1600 → (∀ i, i < f → ∃ p, sA T 41 i = nI p ∧ p < a) → (∀ i, f ≤ i → i < f + m → ∃ p, sA T 41 i = nI p ∧ a ≤ p ∧ p < 2 ^ 20) → ∃ T1, FrT [3214] [] [] [] T T1 ∧ sI T1 3214 = nI f ∧ ∀ lv : sm_L, sm_get lv 0 = some (.ref 32) → sm_get lv 1 = some (.int (nI a)) → Bod (d + 8) 119 0 lv [] T none T1 := by
  intro m
  induction m with
  | zero =>
    intro T h1 h2 h3 h4
    refine ⟨T, FrT.refl _ _ _ _ _, h1, fun lv q0 q1 => ?_⟩
    by_cases hf : f = 0
    · exact cFgL_1 (fx := f) q0 q1 ha h1 (by omega) (by omega)
    · obtain ⟨p, p1, p2⟩ := h3 (f - 1) (by omega)
      exact cFgL_3 (fx := f) q0 q1 ha h1 (by omega) (by omega) (by omega) (by omega) p1 (by omega) p2
  | succ m ih =>
    intro T h1 h2 h3 h4
    obtain ⟨p, p1, p2, p3⟩ := h4 (f + m) (by omega) (by omega)
    have hF : FrT [3214] [] [] [] T (wI 3214 (nI (f + m)) T) := FrT_wI (by decide) (FrT.refl _ _ _ _ _)
    obtain ⟨T1, i1, i2, i3⟩ := ih (wI 3214 (nI (f + m)) T) (rIe _ _ _) (by omega) h3 (fun i j1 j2 => h4 i j1 (by omega))
    exact ⟨T1, hF.trans i1, i2, fun lv q0 q1 => cFgL_4 (fx := f + m + 1) q0 q1 ha h1 (by omega) (by omega) (by omega) (by omega) p1 (by omega) p2 (fun lv1 r0 r1 => i3 lv1 r0 r1)⟩
end
section
variable {A : Nat → Int32} {n z0 fb a0 s ab d : Nat} {S0 : cS}
/-- cut and forget: as before the steps os -/
theorem back_E {a c f k k1 : Nat} {os : List Op} {sc : SCs} {at' : List Nat} {S S1 U : cS} (h0 : yG A n S0 z0 fb a0 s ab k sc at' a c f S) (h : yOK A n S0 z0 fb a0 s ab S a c f (k1, os, sc, at') S1) (hU : FrT lxI lxJ [19, 20] [17, 18] S1 U) : ∃ S2 S3, Ans (d + 9) 118 [.ref 23, .int (nI a), .int (nI c), .int (nI (fb + sc.1.length - 1))] U none S2 ∧ Ans (d + 9) 119 [.ref 32, .int (nI a)] S2 none S3 ∧ FrT [2307, 2308, 2309, 3214] [] [] [] U S3 ∧ sI S3 2307 = nI a ∧ sI S3 2308 = nI c ∧ sI S3 2309 = nI (fb + sc.1.length - 1) ∧ sI S3 3214 = nI f := by
  obtain ⟨⟨g1, g2, g3, g4, g5, g6, g7, g8, g9, g10, g11, g12, ⟨tr, lt, g13, g13b, g13c, g13d⟩, g14, g15, g16, g17, g18, g19⟩, h2, h3, h4, h5, h6⟩ := h
  have b12 := h0.2.2.2.2.2.2.2.2.2.2.2.1
  dsimp only at g2 g15 g16 h3
  have F2 : FrT [2307, 2308, 2309, 3214] [] [] [] U (wI 2309 (nI (fb + sc.1.length - 1)) (wI 2308 (nI c) (wI 2307 (nI a) U))) := FrT_wI (by decide) (FrT_wI (by decide) (FrT_wI (by decide) (FrT.refl _ _ _ _ _)))
  have p2 : Ans (d + 9) 118 [.ref 23, .int (nI a), .int (nI c), .int (nI (fb + sc.1.length - 1))] U none (wI 2309 (nI (fb + sc.1.length - 1)) (wI 2308 (nI c) (wI 2307 (nI a) U))) := cut_ev
  have e14 : sI (wI 2309 (nI (fb + sc.1.length - 1)) (wI 2308 (nI c) (wI 2307 (nI a) U))) 3214 = nI (f + fxM os) := by
    rw [rIn _ _ (by decide), rIn _ _ (by decide), rIn _ _ (by decide)]
    exact (hU.1 _ (by decide)).trans g2.2.2.1
  have e07 : sI (wI 2309 (nI (fb + sc.1.length - 1)) (wI 2308 (nI c) (wI 2307 (nI a) U))) 2307 = nI a := by
    rw [rIn _ _ (by decide), rIn _ _ (by decide)]
    exact rIe _ _ _
  have e08 : sI (wI 2309 (nI (fb + sc.1.length - 1)) (wI 2308 (nI c) (wI 2307 (nI a) U))) 2308 = nI c := by
    rw [rIn _ _ (by decide)]
    exact rIe _ _ _
  have e09 : sI (wI 2309 (nI (fb + sc.1.length - 1)) (wI 2308 (nI c) (wI 2307 (nI a) U))) 2309 = nI (fb + sc.1.length - 1) := rIe _ _ _
  generalize wI 2309 (nI (fb + sc.1.length - 1)) (wI 2308 (nI c) (wI 2307 (nI a) U)) = S2 at F2 p2 e14 e07 e08 e09
  have e41 : sA S2 41 = sA S1 41 := (F2.2.2.1 41 (by decide)).trans (hU.2.2.1 41 (by decide))
  have hlow : ∀ i, i < f → ∃ p, sA S1 41 i = nI p ∧ p < a := fun i hi => by
    rw [(h4.2.1.1.2.2 i hi).1]
    exact b12 i hi
  obtain ⟨S3, F3, q3, p3⟩ := fgt_L (d := d) (a := a) (f := f) (by omega) (fxM os) S2 e14 (by omega) (fun i hi => by rw [e41]; exact hlow i hi) (fun i i1 i2 => by
    rw [e41]
    obtain ⟨p, q1, q2, q3⟩ := fxS_B os f a (fun o _ ho => by have := fxO_l ho; omega) h3 i i1 i2
    exact ⟨p, q1, q2, by omega⟩)
  exact ⟨S2, S3, p2, Ans.of (by rw [ml_119]; exact Nat.le_of_ble_eq_true rfl) (p3 _ rfl rfl), F2.trans (F3.mono (by decide) (fun _ h => h) (fun _ h => h) (fun _ h => h)), (F3.1 _ (by decide)).trans e07, (F3.1 _ (by decide)).trans e08, (F3.1 _ (by decide)).trans e09, q3⟩
theorem back_G {a c f k k1 : Nat} {os : List Op} {sc : SCs} {at' : List Nat} {S S1 S3 : cS} (h0 : yG A n S0 z0 fb a0 s ab k sc at' a c f S) (h : yOK A n S0 z0 fb a0 s ab S a c f (k1, os, sc, at') S1) (hb : bks a os = []) (F : FrT [2307, 2308, 2309, 3214] [] [] [] S1 S3) (c07 : sI S3 2307 = nI a) (c08 : sI S3 2308 = nI c) (c09 : sI S3 2309 = nI (fb + sc.1.length - 1)) (q3 : sI S3 3214 = nI f) : yOK A n S0 z0 fb a0 s ab S a c f (k1, [], sc, at') S3 := by
  obtain ⟨⟨g1, g2, g3, g4, g5, g6, g7, g8, g9, g10, g11, g12, ⟨tr, lt, g13, g13b, g13c, g13d⟩, g14, g15, g16, g17, g18, g19⟩, h2, h3, h4, h5, h6⟩ := h
  obtain ⟨b1, b2, b3, b4, b5, b6, b7, b8, b9, b10, b11, b12, b13, b14, b15, b16, b17, b18, b19⟩ := h0
  dsimp only at g1 g2 g3 g4 g5 g6 g7 g8 g9 g10 g11 g12 g14 g15 g16 h5 h2 h3
  have hlow : ∀ i, i < f → ∃ p, sA S1 41 i = nI p ∧ p < a := fun i hi => by
    rw [(h4.2.1.1.2.2 i hi).1]
    exact b12 i hi
  have hn : nK S1 S3 := cP_nK g1 (F.1 _ (by decide)) (fun a _ => F.2.2.2.1 a (fun h => by cases h))
  have e1 : ∀ i, i ∈ [3102, 3103, 3104, 3105, 3106, 3107, 3108, 3109, 3113, 1607] → i ∉ [2307, 2308, 2309, 3214] := by decide
  have hA : ∀ x, sA S3 x = sA S1 x := fun x => F.2.2.1 x (fun h => by cases h)
  have hL : ∀ x, sL S3 x = sL S1 x := fun x => F.2.2.2.1 x (fun h => by cases h)
  have hJ : ∀ x, sJ S3 x = sJ S1 x := fun x => F.2.1 x (fun h => by cases h)
  obtain ⟨z, c', i1, i2, i3, i4, i5⟩ := h2
  refine ⟨⟨cP_S g1 (fun i hi => F.1 i (e1 i hi)) (fun x _ => hJ x) (fun x _ => hA x) (fun x _ => hL x), ⟨c07, c08, q3, (F.1 _ (by decide)).trans g2.2.2.2.1, g2.2.2.2.2⟩, c09, (F.1 _ (by decide)).trans g4, (F.1 _ (by decide)).trans g5, yS_S g6 hn (fun x _ => hA x), fun i j1 j2 => by rw [hA 28]; exact g7 i j1 j2, g8, g9, yAt_S g10 hn (F.1 _ (by decide)) (hA 45), (F.1 _ (by decide)).trans g11, fun i hi => by rw [hA 41]; exact hlow i hi, ⟨tr, lt, (F.1 _ (by decide)).trans g13, (F.1 _ (by decide)).trans g13b, g13c, g13d⟩, b14, b15, b16, g17, g18, g19⟩, ⟨z, c, (F.1 _ (by decide)).trans i1, i2, c08, b14, trivial⟩, trivial, ?_, ?_, ?_⟩
  · exact yF_trans h4 (show yF fb a c f ab S1 S3 from ⟨F.mono (by decide) (fun _ h => (by cases h)) (fun _ h => (by cases h)) (fun _ h => (by cases h)), kQ_eq (fun x _ => hA x) (fun x _ => hL x), hn⟩) (Nat.le_refl _) (Nat.le_refl _) (Nat.le_refl _) (Nat.le_refl _)
  · rw [hb] at h5
    rw [F.1 4310 (by decide)]
    exact h5
  · show chD (a + 2) (a + 0) []
    trivial
/-- the same behind a fault -/
theorem back_B {a c f k k1 l lo : Nat} {os : List Op} {sc : SCs} {at' : List Nat} {S S1 U : cS} (hn3 : n ≤ 3000) (h0 : yG A n S0 z0 fb a0 s ab k sc at' a c f S) (h : yOK A n S0 z0 fb a0 s ab S a c f (k1, os, sc, at') S1) (hb : bks a os = []) (hB : cB A n S0 z0 l U) (hU : FrT lxI lxJ [19, 20] [17, 18] S1 U) (hnU : nK S1 U) (hlo : a ≤ lo) : ∃ S2 S3, Ans (d + 9) 118 [.ref 23, .int (nI a), .int (nI c), .int (nI (fb + sc.1.length - 1))] U none S2 ∧ Ans (d + 9) 119 [.ref 32, .int (nI a)] S2 none S3 ∧ yB A n S0 z0 fb l a c f ab lo [] a c f sc.2.length sc.1.length (fb + sc.1.length - 1) S S3 := by
  obtain ⟨S2, S3, p2, p3, F, c07, c08, c09, c14⟩ := back_E (d := d) h0 h hU
  obtain ⟨_, T, _, _, G, d07, d08, d09, d14⟩ := back_E (d := 0) h0 h (FrT.refl _ _ _ _ S1)
  have hT := back_G h0 h hb G d07 d08 d09 d14
  have e4 : ∀ i, i ∈ [2307, 2308, 2309, 3214] → sI S3 i = sI T i := by
    intro i hi
    simp only [List.mem_cons, List.not_mem_nil, or_false] at hi
    rcases hi with rfl | rfl | rfl | rfl
    · rw [c07, d07]
    · rw [c08, d08]
    · rw [c09, d09]
    · rw [c14, d14]
  have hTU : FrT lxI lxJ [19, 20] [17, 18] T S3 := by
    refine ⟨fun i hi => ?_, fun i hi => ?_, fun x hx => ?_, fun x hx => ?_, ?_, ?_, ?_, ?_⟩
    · by_cases h4 : i ∈ [2307, 2308, 2309, 3214]
      · exact e4 i h4
      · rw [F.1 i h4, G.1 i h4]
        exact hU.1 i hi
    · rw [F.2.1 i (fun h => by cases h), G.2.1 i (fun h => by cases h)]
      exact hU.2.1 i hi
    · rw [F.2.2.1 x (fun h => by cases h), G.2.2.1 x (fun h => by cases h)]
      exact hU.2.2.1 x hx
    · rw [F.2.2.2.1 x (fun h => by cases h), G.2.2.2.1 x (fun h => by cases h)]
      exact hU.2.2.2.1 x hx
    · rw [F.2.2.2.2.1, G.2.2.2.2.1]; exact hU.2.2.2.2.1
    · rw [F.2.2.2.2.2.1, G.2.2.2.2.2.1]; exact hU.2.2.2.2.2.1
    · rw [F.2.2.2.2.2.2.1, G.2.2.2.2.2.2.1]; exact hU.2.2.2.2.2.2.1
    · rw [F.2.2.2.2.2.2.2, G.2.2.2.2.2.2.2]; exact hU.2.2.2.2.2.2.2
  have e1 : ∀ i, i ∈ [1607, 3102, 3103, 3105, 3106, 3107] → i ∉ [2307, 2308, 2309, 3214] := by decide
  have hnT : nK T S3 := by
    obtain ⟨z, z1, q1, q2, q3, q4, q5⟩ := hnU
    exact ⟨z, z1, (G.1 _ (by decide)).trans q1, (F.1 _ (by decide)).trans q2, q3, q4, fun i hi => by
      rw [F.2.2.2.1 17 (fun h => by cases h), F.2.2.2.1 18 (fun h => by cases h), G.2.2.2.1 17 (fun h => by cases h), G.2.2.2.1 18 (fun h => by cases h)]
      exact q5 i hi⟩
  have hB3 : cB A n S0 z0 l S3 := cB_S hB (F.1 _ (by decide)) (F.1 _ (by decide)) (F.1 _ (by decide)) (fun b _ => F.2.2.1 b (fun h => by cases h)) (fun b _ => F.2.2.2.1 b (fun h => by cases h))
  refine ⟨S2, S3, p2, p3, ?_⟩
  have hG := hT.1
  have g := yG_bad (lo := lo) hn3 hG hB3 hTU hnT (by show a + 0 ≤ lo; omega)
  exact yB_base0 hT.2.2.2.1 hT.2.2.2.2.1 (by dsimp only; omega) (by dsimp only; omega) (by dsimp only; omega) g
end
section
variable {A : Nat → Int32} {n z0 fb l a c f ab lo d : Nat} {S0 B : cS} {H : List Nat} {qa qc qf qe qs qn : Nat}
/-- an expression behind a fault, and what it is as a target -/
theorem yB_parseT {S : cS} {dp : Nat} (h : yB A n S0 z0 fb l a c f ab lo H qa qc qf qe qs qn B S) : ∃ S1 t at0, Ans (d + 17) 57 [.ref 44, .int (nI dp)] S none S1 ∧ yB A n S0 z0 fb l a c f ab lo H qa qc qf qe qs qn B S1 ∧ sI S1 2307 = nI t ∧ t ≤ 40960 ∧ a ≤ at0 ∧ tgA S1 at0 t := by
  obtain ⟨t, c', f', s, e, sn, fn, av, tv, lv, l', h1, h2, h3, h4, h5, h6, h7', h8, h9, hfl, hlo, g1, g2, g3, g4, g5, g6, g7, g8, g9, g10⟩ := yB_top h
  obtain ⟨k1, ps, k3, k4, k5⟩ := yK_t h.2.2.2.1 h1.1 (by omega)
  obtain ⟨S1, p1, p2⟩ := bad_parse (d := d) (dp := dp) h.1 h1
  obtain ⟨b1, ⟨x, y, w, b2, b3, b4, b5, b6, b7, b8, b10⟩, b9⟩ := p2
  obtain rfl : x = t := by omega
  obtain rfl : y = c' := by omega
  obtain rfl : w = f' := by omega
  have hF := b9.1
  refine ⟨S1, x, x, p1, ⟨b1, ⟨x, y, w, s, e, sn, fn, av, tv, lv, l', b2, (hF.1 _ (by decide)).trans h2, (hF.1 _ (by decide)).trans h3, (hF.1 _ (by decide)).trans h4, (hF.1 _ (by decide)).trans h5, (hF.1 _ (by decide)).trans h6, (hF.1 _ (by decide)).trans h7', (hF.1 _ (by decide)).trans h8, by rw [hF.1 _ (by decide)]; exact h9, (hF.1 _ (by decide)).trans hfl, hlo, g1, g2, g3, g4, g5, g6, g7, g8, g9, g10⟩, yF_trans h.2.2.1 (yF_x b9) (by omega) (by omega) (by omega) (Nat.le_refl _), ⟨ps, x, b2.1, k1, ?_, k4, k5⟩, h.2.2.2.2.1, yV_F h.2.2.2.2.2 hF (by decide) (by decide)⟩, b2.1, by omega, by omega, b10⟩
  rw [hF.1 4310 (by decide)]
  exact chL_S ps _ (fun p hp => b9.2.1.1 _ (by have := chD_mem ps x k4 p hp; omega)) k3
/-- behind a faulty `=`: the whole target once more -/
theorem yB_tail {S : cS} {x : Int32} (h : yB A n S0 z0 fb l a c f ab lo H qa qc qf qe qs qn B S) (hlo : 40960 ≤ lo) (he : qe + 1 ≤ 1600) : ∃ S1 S2 S3, Ans (d + 17) 120 [.ref 31, .int x] S none S1 ∧ Ans (d + 17) 57 [.ref 44, .int (nI 0)] S1 none S2 ∧ Ans (d + 17) 110 [.ref 43, .int (nI 19), .int (nI 41), .int (nI 46)] S2 none S3 ∧ ∀ y, ∃ S4, Ans (d + 17) 120 [.ref 31, .int y] S3 none S4 ∧ yB A n S0 z0 fb l a c f ab lo H qa qc qf (qe + 1) qs qn B S4 := by
  obtain ⟨S1, p1, p2, p3, p4⟩ := goTo_B (d := d + 10) (x := x) h.1
  have h1 := yB_lx h p2 p3 p4
  obtain ⟨S2, t, at0, r1, r2, r3, r4, r5, r6⟩ := yB_parseT (d := d) (dp := 0) h1
  obtain ⟨S3, q1, q2⟩ := yB_rtg (d := d + 6) (x := 19) (y := 41) (z := 46) r2 hlo r3 r4 r5 r6 he (by omega) (by omega) (by omega)
  refine ⟨S1, S2, S3, p1, r1, q1, fun y => ?_⟩
  obtain ⟨S4, t1, t2, t3, t4⟩ := goTo_B (d := d + 10) (x := y) q2.1
  exact ⟨S4, t1, yB_lx q2 t2 t3 t4⟩
end
