/-! THE CLASS'S LEAVES behind a fault -/
/-- the scopes stay -/
theorem yV_F {LI LA : List Nat} {S S1 : cS} {LJ LL : List Nat} (h : yV S) (hF : FrT LI LJ LA LL S S1) (hI : ∀ i, i ∈ [3211, 3212, 3213] → i ∉ LI) (hA : ∀ a, a ∈ [35, 36, 40] → a ∉ LA) : yV S1 := yV_S h (fun i hi => hF.1 i (hI i hi)) (fun x hx => hF.2.2.1 x (hA x hx))
section
variable {A : Nat → Int32} {n z0 fb l a c f ab lo : Nat} {S0 B : cS} {H : List Nat} {qa qc qf qe qs qn d : Nat}
theorem yB_emitW {S S1 : cS} {t w : Nat} {H1 : List Nat} (h : yB A n S0 z0 fb l a c f ab lo H qa qc qf qe qs qn B S) (ht : sI S 2307 = nI t) (htM : t < 2 ^ 30) (hF : FrT [2307, 4403, 4404] [] [24] [] S S1) (h7 : sI S1 2307 = nI (t + w)) (hw : qa + w ≤ 40960) (h24 : ∀ i, i < t → sA S1 24 i = sA S 24 i) (hH : ∀ x, x ∈ H1 → x ∈ H ∨ (x = t ∧ 2 ≤ w)) : yB A n S0 z0 fb l a c f ab lo H1 (qa + w) qc qf qe qs qn B S1 := by
  obtain ⟨t', c', f', s, e, sn, fn, av, tv, lv, l', h1, h2, h3, h4, h5, h6, h7', h8, h9, hfl, hlo, g1, g2, g3, g4, g5, g6, g7, g8, g9, g10⟩ := yB_top h
  have g0 := nI_inj (a := t) (b := t') (by omega) (by omega) (ht.symm.trans h1.1)
  subst g0
  obtain ⟨k1, ps, k3, k4, k5⟩ := yK_t h.2.2.2.1 ht htM
  refine yB_w h (hF.mono (by decide) (fun _ h => by cases h) (by decide) (fun _ h => by cases h)) ⟨t + w, c', f', s, e, sn, fn, av, tv, lv, l', ⟨h7, (hF.1 _ (by decide)).trans h1.2.1, (hF.1 _ (by decide)).trans h1.2.2.1, (hF.1 _ (by decide)).trans h1.2.2.2.1, h1.2.2.2.2⟩, (hF.1 _ (by decide)).trans h2, (hF.1 _ (by decide)).trans h3, (hF.1 _ (by decide)).trans h4, (hF.1 _ (by decide)).trans h5, (hF.1 _ (by decide)).trans h6, (hF.1 _ (by decide)).trans h7', (hF.1 _ (by decide)).trans h8, by rw [hF.1 _ (by decide)]; exact h9, (hF.1 _ (by decide)).trans hfl, by omega, by omega, g2, g3, g4, g5, g6, g7, g8, g9, g10⟩ (kQ_A (fun i hi => h24 i (by omega)) (fun i _ => ⟨by rw [hF.2.2.2.1 25 (by decide)], by rw [hF.2.2.2.1 26 (by decide)]⟩) (fun i _ => ⟨by rw [hF.2.2.1 41 (by decide)], by rw [hF.2.2.1 42 (by decide)]⟩) (fun i _ => by rw [hF.2.2.1 45 (by decide)]) (fun x hx i _ => by
    have : ∀ x, x ∈ [27, 28, 29, 30] → x ∉ [24] := by decide
    rw [hF.2.2.1 x (this x hx)])) ⟨ps, t + w, h7, by omega, ?_, chD_le ps _ _ (by omega) k4, fun x hx => ?_⟩ (yV_F h.2.2.2.2.2 hF (by decide) (by decide))
  · rw [hF.1 4310 (by decide)]
    exact chL_S ps _ (fun p hp => h24 _ (by have := chD_mem ps t k4 p hp; omega)) k3
  · rcases hH x hx with h8 | ⟨rfl, h8⟩
    · exact ⟨by have := (k5 x h8).1; omega, (k5 x h8).2⟩
    · exact ⟨by omega, fun hc => by have := chD_mem ps x k4 x hc; omega⟩
theorem yB_put1 {S : cS} {x0 : Int32} (h : yB A n S0 z0 fb l a c f ab lo H qa qc qf qe qs qn B S) (hq : qa + 1 ≤ 40960) : ∃ S1 t, Ans (d + 2) 71 [.ref 23, .int x0] S (some (.int (nI t))) S1 ∧ t < 2 ^ 20 ∧ yB A n S0 z0 fb l a c f ab lo H (qa + 1) qc qf qe qs qn B S1 := by
  obtain ⟨t, c', f', s, e, sn, fn, av, tv, lv, l', h1, h2, h3, h4, h5, h6, h7', h8, h9, hfl, hlo, g1, g2, g3, g4, g5, g6, g7, g8, g9, g10⟩ := yB_top h
  refine ⟨_, t, put1_ev (d := d) h1.1 (by omega), by omega, yB_emitW (w := 1) h h1.1 (by omega) (FrT_wI (by decide) (FrT_wA (by decide) (FrT.refl _ _ _ _ _))) (rIe _ _ _) hq (fun i hi => ?_) (fun x hx => Or.inl hx)⟩
  show upd (sA S 24) t _ i = _
  rw [upd_at, if_neg (by omega)]
theorem yB_put2 {S : cS} {x0 x1 : Int32} (h : yB A n S0 z0 fb l a c f ab lo H qa qc qf qe qs qn B S) (hq : qa + 2 ≤ 40960) : ∃ S1 t, Ans (d + 2) 54 [.ref 23, .int x0, .int x1] S (some (.int (nI t))) S1 ∧ t < 2 ^ 20 ∧ yB A n S0 z0 fb l a c f ab lo (t :: H) (qa + 2) qc qf qe qs qn B S1 ∧ sA S1 24 (t + 1) = x1 ∧ a ≤ t := by
  obtain ⟨t, c', f', s, e, sn, fn, av, tv, lv, l', h1, h2, h3, h4, h5, h6, h7', h8, h9, hfl, hlo, g1, g2, g3, g4, g5, g6, g7, g8, g9, g10⟩ := yB_top h
  refine ⟨_, t, put2_ev (d := d) h1.1 (by omega), by omega, yB_emitW (w := 2) h h1.1 (by omega) (FrT_wI (by decide) (FrT_wA (by decide) (FrT_wA (by decide) (FrT.refl _ _ _ _ _)))) (rIe _ _ _) hq (fun i hi => ?_) (fun x hx => ?_), ?_, by omega⟩
  · show upd (upd (sA S 24) t _) (t + 1) _ i = _
    rw [upd_at, upd_at, if_neg (by omega), if_neg (by omega)]
  · rcases List.mem_cons.mp hx with h | h
    · exact Or.inr ⟨h, Nat.le_refl _⟩
    · exact Or.inl h
  · show upd (upd (sA S 24) t _) (t + 1) _ (t + 1) = _
    rw [upd_at, if_pos rfl]
/-- holes are forgotten -/
theorem yB_H {S : cS} {H1 : List Nat} (h : yB A n S0 z0 fb l a c f ab lo H qa qc qf qe qs qn B S) (hH : ∀ x, x ∈ H1 → x ∈ H) : yB A n S0 z0 fb l a c f ab lo H1 qa qc qf qe qs qn B S := by
  obtain ⟨h1, h2, h3, ⟨ps, t, k1, k2, k3, k4, k5⟩, h5⟩ := h
  exact ⟨h1, h2, h3, ⟨ps, t, k1, k2, k3, k4, fun x hx => k5 x (hH x hx)⟩, h5⟩
theorem yB_put3 {S : cS} {x0 x1 x2 : Int32} (h : yB A n S0 z0 fb l a c f ab lo H qa qc qf qe qs qn B S) (hq : qa + 3 ≤ 40960) : ∃ S1 t, Ans (d + 2) 68 [.ref 23, .int x0, .int x1, .int x2] S (some (.int (nI t))) S1 ∧ t < 2 ^ 20 ∧ yB A n S0 z0 fb l a c f ab lo H (qa + 3) qc qf qe qs qn B S1 := by
  obtain ⟨t, c', f', s, e, sn, fn, av, tv, lv, l', h1, h2, h3, h4, h5, h6, h7', h8, h9, hfl, hlo, g1, g2, g3, g4, g5, g6, g7, g8, g9, g10⟩ := yB_top h
  refine ⟨_, t, put3_ev (d := d) h1.1 (by omega), by omega, yB_emitW (w := 3) h h1.1 (by omega) (FrT_wI (by decide) (FrT_wA (by decide) (FrT_wA (by decide) (FrT_wA (by decide) (FrT.refl _ _ _ _ _))))) (rIe _ _ _) hq (fun i hi => ?_) (fun x hx => Or.inl hx)⟩
  show upd (upd (upd (sA S 24) t _) (t + 1) _) (t + 2) _ i = _
  rw [upd_at, upd_at, upd_at, if_neg (by omega), if_neg (by omega), if_neg (by omega)]
/-- a hole is told -/
theorem yB_patch {S : cS} {p : Nat} {x : Int32} (h : yB A n S0 z0 fb l a c f ab lo H qa qc qf qe qs qn B S) (hp : p ∈ H) (hap : a ≤ p) : Ans (d + 1) 83 [.ref 23, .int (nI (p + 1)), .int x] S none (wA 24 (p + 1) x S) ∧ yB A n S0 z0 fb l a c f ab lo H qa qc qf qe qs qn B (wA 24 (p + 1) x S) := by
  obtain ⟨t, c', f', s, e, sn, fn, av, tv, lv, l', h1, h2, h3, h4, h5, h6, h7', h8, h9, hfl, hlo, g1, g2, g3, g4, g5, g6, g7, g8, g9, g10⟩ := yB_top h
  obtain ⟨ps, t', k1, k2, k3, k4, k5⟩ := id h.2.2.2.1
  obtain ⟨q1, q2⟩ := k5 p hp
  have htM : t' < 2 ^ 30 := by omega
  refine ⟨patch_T (d := d) k1 (by omega) (by omega), yB_w h (FrT_wA (by decide) (FrT.refl _ _ _ _ _)) (yC_S h.2.1 (fun i _ => rfl)) (kQ_A (fun i hi => ?_) (fun _ _ => ⟨rfl, rfl⟩) (fun _ _ => ⟨rfl, rfl⟩) (fun _ _ => rfl) (fun x hx i _ => ?_)) ⟨ps, t', k1, k2, chL_S ps _ (fun q hq => ?_) k3, k4, k5⟩ (yV_F (LI := []) (LJ := []) (LA := [24]) (LL := []) h.2.2.2.2.2 (FrT_wA (by decide) (FrT.refl _ _ _ _ _)) (by decide) (by decide))⟩
  · show upd (sA S 24) (p + 1) x i = _
    rw [upd_at, if_neg (by omega)]
  · have : ∀ x, x ∈ [27, 28, 29, 30] → x ≠ 24 := by decide
    rw [rAn _ _ _ (this x hx)]
  · show upd (sA S 24) (p + 1) x (q + 1) = _
    rw [upd_at, if_neg (fun e => q2 (by have : q = p := by omega
                                        exact this ▸ hq))]
theorem yB_const {S : cS} {hi lo' : Int64} (h : yB A n S0 z0 fb l a c f ab lo H qa qc qf qe qs qn B S) (hq : qa + 2 ≤ 40960) (hc : qc + 1 ≤ 5200) : ∃ S1, Ans (d + 3) 73 [.ref 23, .long hi, .long lo'] S none S1 ∧ yB A n S0 z0 fb l a c f ab lo H (qa + 2) (qc + 1) qf qe qs qn B S1 := by
  obtain ⟨t, c', f', s, e, sn, fn, av, tv, lv, l', h1, h2, h3, h4, h5, h6, h7', h8, h9, hfl, hlo, g1, g2, g3, g4, g5, g6, g7, g8, g9, g10⟩ := yB_top h
  obtain ⟨k1, ps, k3, k4, k5⟩ := yK_t h.2.2.2.1 h1.1 (by omega)
  refine ⟨_, putConstant_ev (d := d) h1.1 h1.2.1 (by omega) (by omega), yB_w h (FrT_wI (by decide) (FrT_wA (by decide) (FrT_wA (by decide) (FrT_wI (by decide) (FrT_wL (by decide) (FrT_wL (by decide) (FrT.refl _ _ _ _ _))))))) ⟨t + 2, c' + 1, f', s, e, sn, fn, av, tv, lv, l', ⟨rIe _ _ _, (by simp only [rI, rJI, rAI, rLI, rIJ, rIA, rJA, rLA, rIL, reduceIte, Nat.reduceEqDiff]), (by simp only [rI, rJI, rAI, rLI, rIJ, rIA, rJA, rLA, rIL, reduceIte, Nat.reduceEqDiff, h1.2.2.1]), (by simp only [rI, rJI, rAI, rLI, rIJ, rIA, rJA, rLA, rIL, reduceIte, Nat.reduceEqDiff, h1.2.2.2.1]), h1.2.2.2.2⟩, (by simp only [rI, rJI, rAI, rLI, rIJ, rIA, rJA, rLA, rIL, reduceIte, Nat.reduceEqDiff, h2]), (by simp only [rI, rJI, rAI, rLI, rIJ, rIA, rJA, rLA, rIL, reduceIte, Nat.reduceEqDiff, h3]), (by simp only [rI, rJI, rAI, rLI, rIJ, rIA, rJA, rLA, rIL, reduceIte, Nat.reduceEqDiff, h4]), (by simp only [rI, rJI, rAI, rLI, rIJ, rIA, rJA, rLA, rIL, reduceIte, Nat.reduceEqDiff, h5]), (by simp only [rI, rJI, rAI, rLI, rIJ, rIA, rJA, rLA, rIL, reduceIte, Nat.reduceEqDiff, h6]), (by simp only [rI, rJI, rAI, rLI, rIJ, rIA, rJA, rLA, rIL, reduceIte, Nat.reduceEqDiff, h7']), (by simp only [rI, rJI, rAI, rLI, rIJ, rIA, rJA, rLA, rIL, reduceIte, Nat.reduceEqDiff, h8]), ?_, (by simp only [rI, rJI, rAI, rLI, rIJ, rIA, rJA, rLA, rIL, reduceIte, Nat.reduceEqDiff, hfl]), by omega, by omega, by omega, g3, g4, g5, g6, g7, g8, g9, g10⟩ (kQ_A (fun i hi => ?_) (fun i hi => ⟨?_, ?_⟩) (fun _ _ => ⟨rfl, rfl⟩) (fun _ _ => rfl) (fun x hx i _ => ?_)) ⟨ps, t + 2, rIe _ _ _, by omega, chL_S (S := S) ps _ (fun p hp => ?_) ?_, chD_le ps _ _ (by omega) k4, fun x hx => ⟨by have := (k5 x hx).1; omega, (k5 x hx).2⟩⟩ (yV_F (LI := [2307, 2308]) (LJ := []) (LA := [24]) (LL := [25, 26]) h.2.2.2.2.2 (FrT_wI (by decide) (FrT_wA (by decide) (FrT_wA (by decide) (FrT_wI (by decide) (FrT_wL (by decide) (FrT_wL (by decide) (FrT.refl _ _ _ _ _))))))) (by decide) (by decide))⟩
  · simp only [rI, rJI, rAI, rLI, rIJ, rIA, rJA, rLA, rIL, reduceIte, Nat.reduceEqDiff]
    exact h9
  · show upd (upd (sA S 24) t _) (t + 1) _ i = _
    rw [upd_at, upd_at, if_neg (by omega), if_neg (by omega)]
  · show vp_updL (sL S 25) c' _ i = _
    exact if_neg (by omega)
  · show vp_updL (sL S 26) c' _ i = _
    exact if_neg (by omega)
  · have : ∀ x, x ∈ [27, 28, 29, 30] → x ≠ 24 := by decide
    simp only [rIA, rLA, rAn _ _ _ (this x hx)]
  · show upd (upd (sA S 24) t _) (t + 1) _ (p + 1) = _
    have := chD_mem ps t k4 p hp
    rw [upd_at, upd_at, if_neg (by omega), if_neg (by omega)]
  · simp only [rI, rJI, rAI, rLI, rIJ, rIA, rJA, rLA, rIL, reduceIte, Nat.reduceEqDiff]
    exact k3
/-- code that speaks of a name -/
theorem yB_scPut {S : cS} {x0 x1 : Int32} (h : yB A n S0 z0 fb l a c f ab lo H qa qc qf qe qs qn B S) (hq : qa + 3 ≤ 40960) (hf : qf + 1 ≤ 1600) : ∃ S1 t, Ans (d + 3) 67 [.ref 32, .int x0, .int x1] S (some (.int (nI t))) S1 ∧ t < 2 ^ 20 ∧ yB A n S0 z0 fb l a c f ab lo H (qa + 3) qc (qf + 1) qe qs qn B S1 := by
  obtain ⟨t, c', f', s, e, sn, fn, av, tv, lv, l', h1, h2, h3, h4, h5, h6, h7', h8, h9, hfl, hlo, g1, g2, g3, g4, g5, g6, g7, g8, g9, g10⟩ := yB_top h
  obtain ⟨k1, ps, k3, k4, k5⟩ := yK_t h.2.2.2.1 h1.1 (by omega)
  by_cases hs : s = 0
  · subst hs
    refine ⟨_, t, scPut_out (d := d) h1.1 (by omega) h1.2.2.2.1, by omega, yB_le (yB_emitW (w := 3) h h1.1 (by omega) (FrT_wI (by decide) (FrT_wA (by decide) (FrT_wA (by decide) (FrT_wA (by decide) (FrT.refl _ _ _ _ _))))) (rIe _ _ _) hq (fun i hi => ?_) (fun x hx => Or.inl hx)) (Nat.le_refl _) (Nat.le_refl _) (by omega) (Nat.le_refl _) (Nat.le_refl _) (Nat.le_refl _)⟩
    show upd (upd (upd (sA S 24) t _) (t + 1) _) (t + 2) _ i = _
    rw [upd_at, upd_at, upd_at, if_neg (by omega), if_neg (by omega), if_neg (by omega)]
  · refine ⟨_, t, scPut_in (d := d) h1.1 (by omega) h1.2.2.2.1 (by omega) h1.2.2.2.2 h1.2.2.1 (by omega), by omega, yB_w h (FrT_wI (by decide) (FrT_wA (by decide) (FrT_wA (by decide) (FrT_wI (by decide) (FrT_wA (by decide) (FrT_wA (by decide) (FrT_wA (by decide) (FrT.refl _ _ _ _ _)))))))) ⟨t + 3, c', f' + 1, s, e, sn, fn, av, tv, lv, l', ⟨(by simp only [rI, rJI, rAI, rLI, rIJ, rIA, rJA, rLA, rIL, reduceIte, Nat.reduceEqDiff]), (by simp only [rI, rJI, rAI, rLI, rIJ, rIA, rJA, rLA, rIL, reduceIte, Nat.reduceEqDiff, h1.2.1]), rIe _ _ _, (by simp only [rI, rJI, rAI, rLI, rIJ, rIA, rJA, rLA, rIL, reduceIte, Nat.reduceEqDiff, h1.2.2.2.1]), h1.2.2.2.2⟩, (by simp only [rI, rJI, rAI, rLI, rIJ, rIA, rJA, rLA, rIL, reduceIte, Nat.reduceEqDiff, h2]), (by simp only [rI, rJI, rAI, rLI, rIJ, rIA, rJA, rLA, rIL, reduceIte, Nat.reduceEqDiff, h3]), (by simp only [rI, rJI, rAI, rLI, rIJ, rIA, rJA, rLA, rIL, reduceIte, Nat.reduceEqDiff, h4]), (by simp only [rI, rJI, rAI, rLI, rIJ, rIA, rJA, rLA, rIL, reduceIte, Nat.reduceEqDiff, h5]), (by simp only [rI, rJI, rAI, rLI, rIJ, rIA, rJA, rLA, rIL, reduceIte, Nat.reduceEqDiff, h6]), (by simp only [rI, rJI, rAI, rLI, rIJ, rIA, rJA, rLA, rIL, reduceIte, Nat.reduceEqDiff, h7']), (by simp only [rI, rJI, rAI, rLI, rIJ, rIA, rJA, rLA, rIL, reduceIte, Nat.reduceEqDiff, h8]), ?_, (by simp only [rI, rJI, rAI, rLI, rIJ, rIA, rJA, rLA, rIL, reduceIte, Nat.reduceEqDiff, hfl]), by omega, by omega, g2, by omega, g4, g5, g6, g7, g8, g9, g10⟩ (kQ_A (fun i hi => ?_) (fun _ _ => ⟨rfl, rfl⟩) (fun i hi => ⟨?_, ?_⟩) (fun _ _ => rfl) (fun x hx i _ => ?_)) ⟨ps, t + 3, (by simp only [rI, rJI, rAI, rLI, rIJ, rIA, rJA, rLA, rIL, reduceIte, Nat.reduceEqDiff]), by omega, chL_S (S := S) ps _ (fun p hp => ?_) ?_, chD_le ps _ _ (by omega) k4, fun x hx => ⟨by have := (k5 x hx).1; omega, (k5 x hx).2⟩⟩ (yV_F (LI := [2307, 3214]) (LJ := []) (LA := [24, 41, 42]) (LL := []) h.2.2.2.2.2 (FrT_wI (by decide) (FrT_wA (by decide) (FrT_wA (by decide) (FrT_wI (by decide) (FrT_wA (by decide) (FrT_wA (by decide) (FrT_wA (by decide) (FrT.refl _ _ _ _ _)))))))) (by decide) (by decide))⟩
    · simp only [rI, rJI, rAI, rLI, rIJ, rIA, rJA, rLA, rIL, reduceIte, Nat.reduceEqDiff]
      exact h9
    · show upd (upd (upd (sA S 24) t _) (t + 1) _) (t + 2) _ i = _
      rw [upd_at, upd_at, upd_at, if_neg (by omega), if_neg (by omega), if_neg (by omega)]
    · show upd (sA S 41) f' _ i = _
      rw [upd_at, if_neg (by omega)]
    · show upd (sA S 42) f' _ i = _
      rw [upd_at, if_neg (by omega)]
    · have h24 : ∀ x, x ∈ [27, 28, 29, 30] → x ≠ 24 := by decide
      have h41 : ∀ x, x ∈ [27, 28, 29, 30] → x ≠ 41 := by decide
      have h42 : ∀ x, x ∈ [27, 28, 29, 30] → x ≠ 42 := by decide
      simp only [rIA, rAn _ _ _ (h24 x hx), rAn _ _ _ (h41 x hx), rAn _ _ _ (h42 x hx)]
    · show upd (upd (upd (sA S 24) t _) (t + 1) _) (t + 2) _ (p + 1) = _
      have := chD_mem ps t k4 p hp
      rw [upd_at, upd_at, upd_at, if_neg (by omega), if_neg (by omega), if_neg (by omega)]
    · simp only [rI, rJI, rAI, rLI, rIJ, rIA, rJA, rLA, rIL, reduceIte, Nat.reduceEqDiff]
      exact k3
/-- an expression behind a fault -/
theorem yB_parse {S : cS} {dp : Nat} (h : yB A n S0 z0 fb l a c f ab lo H qa qc qf qe qs qn B S) : ∃ S1, Ans (d + 17) 57 [.ref 44, .int (nI dp)] S none S1 ∧ yB A n S0 z0 fb l a c f ab lo H qa qc qf qe qs qn B S1 := by
  obtain ⟨t, c', f', s, e, sn, fn, av, tv, lv, l', h1, h2, h3, h4, h5, h6, h7', h8, h9, hfl, hlo, g1, g2, g3, g4, g5, g6, g7, g8, g9, g10⟩ := yB_top h
  obtain ⟨k1, ps, k3, k4, k5⟩ := yK_t h.2.2.2.1 h1.1 (by omega)
  obtain ⟨S1, p1, p2⟩ := bad_parse (d := d) (dp := dp) h.1 h1
  obtain ⟨b1, ⟨x, y, w, b2, b3, b4, b5, b6, b7, b8, b10⟩, b9⟩ := p2
  obtain rfl : x = t := by omega
  obtain rfl : y = c' := by omega
  obtain rfl : w = f' := by omega
  have hF := b9.1
  refine ⟨S1, p1, b1, ⟨x, y, w, s, e, sn, fn, av, tv, lv, l', b2, (hF.1 _ (by decide)).trans h2, (hF.1 _ (by decide)).trans h3, (hF.1 _ (by decide)).trans h4, (hF.1 _ (by decide)).trans h5, (hF.1 _ (by decide)).trans h6, (hF.1 _ (by decide)).trans h7', (hF.1 _ (by decide)).trans h8, by rw [hF.1 _ (by decide)]; exact h9, (hF.1 _ (by decide)).trans hfl, hlo, g1, g2, g3, g4, g5, g6, g7, g8, g9, g10⟩, yF_trans h.2.2.1 (yF_x b9) (by omega) (by omega) (by omega) (Nat.le_refl _), ⟨ps, x, b2.1, k1, ?_, k4, k5⟩, h.2.2.2.2.1, yV_F h.2.2.2.2.2 hF (by decide) (by decide)⟩
  rw [hF.1 4310 (by decide)]
  exact chL_S ps _ (fun p hp => b9.2.1.1 _ (by have := chD_mem ps x k4 p hp; omega)) k3
theorem yB_ins {S : cS} {i : Nat} (h : yB A n S0 z0 fb l a c f ab lo H qa qc qf qe qs qn B S) (hi : i < 2 ^ 20) : Ans (d + 9) 52 [.ref 43, .int (nI i)] S (some (.int (nI 0))) S :=
  Ans.of (by rw [ml_52]; exact Nat.le_of_ble_eq_true rfl) (Bod.lv (by rfl) (cIns_1 (d := d) (tk := 0) hi (yB_5 h) (by omega) rfl))
/-- the head of a block behind a fault -/
theorem yB_opn {S : cS} {o dp : Nat} (h : yB A n S0 z0 fb l a c f ab lo H qa qc qf qe qs qn B S) (ho : o < 2 ^ 20) (hdp : dp < 2 ^ 20) : ∃ S1, Ans (d + 9) 85 [.ref 43, .int (nI o), .int (nI dp)] S (some (.int (nI 0))) S1 ∧ yB A n S0 z0 fb l a c f ab lo H qa qc qf qe qs qn B S1 := by
  obtain ⟨S1, p1, p2⟩ := yB_pass (d := d + 6) h (t := 13) (by omega) (by omega)
  obtain ⟨S2, q1, q2⟩ := yB_nl (d := d + 6) p2
  obtain ⟨S3, r1, r2⟩ := yB_fail (d := d + 7) q2
  obtain ⟨t, c', f', s, e, sn, fn, av, tv, lv, l', h1, h2, h3, h4, h5, h6, h7', h8, h9, hfl, hlo, g1, g2, g3, g4, g5, g6, g7, g8, g9, g10⟩ := yB_top q2
  rcases h9 with h9 | ⟨i, h9, h9M⟩
  · exact ⟨S3, Ans.of (by rw [ml_85]; exact Nat.le_of_ble_eq_true rfl) (Bod.lv (by rfl) (cOpn_7 (d := d) (tk := 0) ho hdp p1 q1 h9 r1 (yB_5 r2) (by omega) rfl)), r2⟩
  · by_cases hio : i ≤ o
    · exact ⟨S3, Ans.of (by rw [ml_85]; exact Nat.le_of_ble_eq_true rfl) (Bod.lv (by rfl) (cOpn_1 (d := d) (tk := 0) ho hdp p1 q1 h9 (by omega) hio r1 (yB_5 r2) (by omega) rfl)), r2⟩
    by_cases hd : dp ≤ 10
    · exact ⟨S2, Ans.of (by rw [ml_85]; exact Nat.le_of_ble_eq_true rfl) (Bod.lv (by rfl) (cOpn_3 (d := d) (tk := 0) ho hdp p1 q1 h9 (by omega) (by omega) hd (yB_5 q2) (by omega) rfl)), q2⟩
    · exact ⟨S3, Ans.of (by rw [ml_85]; exact Nat.le_of_ble_eq_true rfl) (Bod.lv (by rfl) (cOpn_5 (d := d) (tk := 0) ho hdp p1 q1 h9 (by omega) (by omega) (by omega) r1 (yB_5 r2) (by omega) rfl)), r2⟩
theorem yB_blk {S : cS} {o dp : Nat} (h : yB A n S0 z0 fb l a c f ab lo H qa qc qf qe qs qn B S) (ho : o < 2 ^ 20) (hdp : dp < 2 ^ 20) : ∃ S1, Ans (d + 10) 84 [.ref 43, .int (nI o), .int (nI dp)] S none S1 ∧ yB A n S0 z0 fb l a c f ab lo H qa qc qf qe qs qn B S1 := by
  obtain ⟨S1, p1, p2⟩ := yB_opn (d := d) h ho hdp
  exact ⟨S1, Ans.of (by rw [ml_84]; exact Nat.le_of_ble_eq_true rfl) (Bod.lv (by rfl) (cBlk_3 (d := d + 1) ho hdp p1)), p2⟩
end
