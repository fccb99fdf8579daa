/-! NAMES in the class's statements: a step that speaks of one; one is bound -/
theorem npS_add (l : List (Nat × Nat × Nat)) (s k kd i : Nat) : npS (l ++ [(s, k, kd)]) i = npS l i + (if s = i ∧ kd = 1 then 1 else 0) := by
  unfold npS
  rw [List.filter_append, List.length_append]
  congr 1
  by_cases h : s = i ∧ kd = 1
  · rw [if_pos h, List.filter_cons_of_pos (by
      rw [Bool.and_eq_true]
      exact ⟨Nat.beq_eq.mpr h.1, Nat.beq_eq.mpr h.2⟩)]
    rfl
  · rw [if_neg h, List.filter_cons_of_neg (by
      rw [Bool.and_eq_true]
      intro hc
      exact h ⟨Nat.beq_eq.mp hc.1, Nat.beq_eq.mp hc.2⟩)]
    rfl
section
variable {A : Nat → Int32} {n z0 fb a0 s ab d : Nat} {S0 B : cS}
theorem yOK_sc {a c f k : Nat} {sc sc1 : SCs} {at' : List Nat} {S S1 : cS} (h : yG A n S0 z0 fb a0 s ab k sc at' a c f S) (hF : FrT [3213] [] [35, 36, 37, 38, 40] [] S S1) (h1 : sc1.1 = sc.1) (hS : yS (by1 A) n fb a0 sc1 S1) (hN : ∀ i, npS sc1.2 i = npS sc.2 i) (hW : scW (Eb (by1 A) n) sc1) (h13 : sI S1 3213 = nI sc1.2.length) (hM : sc1.2.length ≤ 1600) : yOK A n S0 z0 fb a0 s ab S a c f (k, [], sc1, at') S1 := by
  obtain ⟨g1, g2, g3, g4, g5, g6, g7, g8, g9, g10, g11, g12, ⟨tr, lt, g13, g13b, g13c, g13d⟩, g14, g15, g16, g17, g18, g19⟩ := h
  have e1 : ∀ i, i ∈ [3102, 3103, 3104, 3105, 3106, 3107, 3108, 3109, 3113, 1607] → i ∉ [3213] := by decide
  have e2 : ∀ a, a ∈ [1, 19, 20] → a ∉ [35, 36, 37, 38, 40] := by decide
  have hL : ∀ x, sL S1 x = sL S x := fun x => hF.2.2.2.1 x (fun h => by cases h)
  have hnK : nK S S1 := cP_nK g1 (hF.1 _ (by decide)) (fun a _ => hL a)
  have hP1 : cP A n S0 z0 k S1 := cP_S g1 (fun i hi => hF.1 i (e1 i hi)) (fun i _ => hF.2.1 i (fun h => by cases h)) (fun a ha => hF.2.2.1 a (e2 a ha)) (fun a _ => hL a)
  obtain ⟨z, z1, z2, z3, z4⟩ := cP_NT g1
  have hA : ∀ x, x ∉ [35, 36, 37, 38, 40] → sA S1 x = sA S x := hF.2.2.1
  refine ⟨⟨hP1, ⟨(hF.1 _ (by decide)).trans g2.1, (hF.1 _ (by decide)).trans g2.2.1, (hF.1 _ (by decide)).trans g2.2.2.1, (hF.1 _ (by decide)).trans g2.2.2.2.1, g2.2.2.2.2⟩, ?_, ?_, h13, hS, fun i i1 i2 => ?_, hW, ?_, yAt_S g10 hnK (hF.1 _ (by decide)) (hA 45 (by decide)), (hF.1 _ (by decide)).trans g11, fun i hi => by rw [hA 41 (by decide)]; exact g12 i hi, ⟨tr, lt, (hF.1 _ (by decide)).trans g13, (hF.1 _ (by decide)).trans g13b, g13c, g13d⟩, g14, g15, g16, hM, ?_, ?_⟩, ⟨z, c, (hF.1 _ (by decide)).trans z1, z2, (hF.1 _ (by decide)).trans g2.2.1, g14, trivial⟩, trivial, ⟨hF.mono (by decide) (fun _ h => by cases h) (by decide) (fun _ h => by cases h), kQ_eq (fun x hx => hA x (by
    have : ∀ x, x ∈ [24, 41, 42, 45, 27, 28, 29, 30] → x ∉ [35, 36, 37, 38, 40] := by decide
    exact this x hx)) (fun x _ => hL x), hnK⟩, hF.1 _ (by decide), trivial⟩
  · dsimp only; rw [h1]; exact (hF.1 _ (by decide)).trans g3
  · dsimp only; rw [h1]; exact (hF.1 _ (by decide)).trans g4
  · dsimp only at i2 ⊢; rw [h1] at i2; rw [hA 28 (by decide), hN]; exact g7 i i1 i2
  · dsimp only; rw [h1]; exact g9
  · dsimp only; rw [h1]; exact g18
  · dsimp only; rw [h1]; exact g19
/-- add: one entry more for the scope at hand -/
theorem add_T {a c f k kn q kd : Nat} {sc : SCs} {at' : List Nat} {S : cS} (h : yG A n S0 z0 fb a0 s ab k sc at' a c f S) (hs : s ≠ 0) (hq : nmR (by1 A) n S kn (nI q)) (hf : scF (Eb (by1 A) n) sc s kn = none) (hM : sc.2.length + 1 ≤ 1600) (hkd : kd ≠ 1) (hkd2 : kd ≤ 2) : ∃ S1, Ans (d + 1) 96 [.ref 32, .int (nI q), .int (nI kd)] S none S1 ∧ yOK A n S0 z0 fb a0 s ab S a c f (k, [], scA s kn kd sc, at') S1 := by
  obtain ⟨g1, g2, g3, g4, g5, g6, g7, g8, g9, g10⟩ := id h
  have hF : FrT [3213] [] [35, 36, 37, 38, 40] [] S (wI 3213 (nI (sc.2.length + 1)) (wA 35 s (nI sc.2.length) (wA 40 sc.2.length (sA (wA 38 sc.2.length (nI kd) (wA 37 sc.2.length (nI s) (wA 36 sc.2.length (nI q) S))) 35 s) (wA 38 sc.2.length (nI kd) (wA 37 sc.2.length (nI s) (wA 36 sc.2.length (nI q) S)))))) := FrT_wI (by decide) (FrT_wA (by decide) (FrT_wA (by decide) (FrT_wA (by decide) (FrT_wA (by decide) (FrT_wA (by decide) (FrT.refl _ _ _ _ _))))))
  have hnK := cP_nK g1 (hF.1 1607 (by decide)) (fun a _ => hF.2.2.2.1 a (fun h => by cases h))
  have hlen : (scA s kn kd sc).2.length = sc.2.length + 1 := by unfold scA; dsimp only; rw [List.length_append]; rfl
  refine ⟨_, add_ev (d := d) g2.2.2.2.1 g5 (by omega) g2.2.2.2.2, yOK_sc h hF rfl (yS_add g6 hq (by omega) g9 hnK rfl rfl rfl rfl rfl (fun x hx => hF.2.2.1 x ?_)) (fun i => ?_) (scW_add (fun _ _ h => Eb_symm h) g8 (by omega) g9 hf hkd2) ?_ (by omega)⟩
  · have : ∀ x, x ∈ [27, 29, 30, 33, 34] → x ∉ [35, 36, 37, 38, 40] := by decide
    exact this x hx
  · show npS (sc.2 ++ [(s, kn, kd)]) i = npS sc.2 i
    rw [npS_add, if_neg (fun hc => hkd hc.2)]
    rfl
  · rw [hlen]
    exact rIe _ _ _
theorem inF_T {a c f k : Nat} {sc : SCs} {at' : List Nat} {S : cS} (h : yG A n S0 z0 fb a0 s ab k sc at' a c f S) : Ans (d + 9) 69 [.ref 32] S (some (.int (if s = 0 then nI 0 else nI 1))) S := by
  have hs := h.2.1.2.2.2.1
  have hs2 := h.2.1.2.2.2.2
  by_cases h0 : s = 0
  · rw [if_pos h0]
    exact Ans.of (by rw [ml_69]; exact Nat.le_of_ble_eq_true rfl) (Bod.lv (by rfl) (cInF_1 (d := d) hs (by omega) h0))
  · rw [if_neg h0]
    exact Ans.of (by rw [ml_69]; exact Nat.le_of_ble_eq_true rfl) (Bod.lv (by rfl) (cInF_2 (d := d) hs (by omega) h0))
/-- a name is bound in the scope at hand -/
theorem bound_T {a c f k kn q : Nat} {sc : SCs} {at' : List Nat} {S : cS} (h : yG A n S0 z0 fb a0 s ab k sc at' a c f S) (hq : nmR (by1 A) n S kn (nI q)) (hqM : q < 4096) (hM : sc.2.length + 1 ≤ 1600) : ∃ S1, Ans (d + 10) 94 [.ref 32, .int (nI q)] S none S1 ∧ yOK A n S0 z0 fb a0 s ab S a c f (k, [], scB (Eb (by1 A) n) s kn sc, at') S1 := by
  have hI := inF_T (d := d) h
  obtain ⟨g1, g2, g3, g4, g5, g6, g7, g8, g9, g10, g11, g12, g13, g14, g15, g16, g17, g18, g19⟩ := id h
  obtain ⟨z, z1, z2, z3, z4⟩ := cP_NT g1
  by_cases h0 : s = 0
  · rw [if_pos h0] at hI
    refine ⟨S, Ans.of (by rw [ml_94]; exact Nat.le_of_ble_eq_true rfl) (Bod.lv (by rfl) (cBnd_3 (d := d + 1) (by omega) hI)), ?_⟩
    have e : scB (Eb (by1 A) n) s kn sc = sc := by unfold scB; exact if_pos h0
    rw [e]
    exact yOK_nil h
  · rw [if_neg h0] at hI
    have e0 : scB (Eb (by1 A) n) s kn sc = (match scF (Eb (by1 A) n) sc s kn with | some _ => sc | none => scA s kn 0 sc) := by unfold scB; exact if_neg h0
    obtain ⟨x, x1, x2⟩ := ent_S (d := d) g6 g8 z4 hq hqM (by omega) g9 g18 g17
    rcases x2 with ⟨x2, x3⟩ | ⟨e, e1, x2, x3, x4⟩
    · subst x3
      obtain ⟨S1, p1, p2⟩ := add_T (d := d + 8) (kd := 0) h h0 hq x2 hM (by omega) (by omega)
      rw [x2] at e0
      rw [e0]
      exact ⟨S1, Ans.of (by rw [ml_94]; exact Nat.le_of_ble_eq_true rfl) (Bod.lv (by rfl) (cBnd_2 (d := d + 1) (by omega) hI g2.2.2.2.1 (by omega) x1 p1)), p2⟩
    · subst x2
      rw [x3] at e0
      rw [e0]
      exact ⟨S, Ans.of (by rw [ml_94]; exact Nat.le_of_ble_eq_true rfl) (Bod.lv (by rfl) (cBnd_1 (d := d + 1) (by omega) hI g2.2.2.2.1 (by omega) (by omega) x1)), yOK_nil h⟩
/-- a step that speaks of a name -/
theorem yE_N {a c f k kn q t : Nat} {sc : SCs} {at' : List Nat} {S : cS} (h : yG A n S0 z0 fb a0 s ab k sc at' a c f S) (hq : nmR (by1 A) n S kn (nI q)) (hqM : q < 4096) (ht : t = 18 ∨ t = 19 ∨ t = 20) (ha : a + 3 ≤ 40960) (hf : f + 1 ≤ 1600) : ∃ S1, Ans (d + 3) 67 [.ref 32, .int (nI t), .int (nI q)] S (some (.int (nI a))) S1 ∧ yOK A n S0 z0 fb a0 s ab S a c f (k, [(t, [kn, s], 0, 0)], sc, at') S1 := by
  have e1 : lC (t, [kn, s], 0, 0) = 3 := lC_n (by dsimp only; omega)
  have e2 : cnO (t, [kn, s], 0, 0) = 0 := by unfold cnO; exact if_neg (by dsimp only; omega)
  have hc := h.2.2.2.2.2.2.2.2.2.2.2.2.2.1
  obtain ⟨q1, z, i1, i2, i3, i4, i5, i6⟩ := hq
  obtain rfl : q = q1 := nI_inj (by omega) (by omega) i1
  have key : ∀ S1 : cS, FrT [2307, 3214] [] [24, 41, 42] [] S S1 → sA S1 24 = upd (upd (upd (sA S 24) a (nI t)) (a + 1) (Int32.ofInt (-1))) (a + 2) (nI q) → sI S1 2307 = nI (a + 3) → (s = 0 → sI S1 3214 = nI f ∧ sA S1 41 = sA S 41 ∧ sA S1 42 = sA S 42) → (s ≠ 0 → sI S1 3214 = nI (f + 1) ∧ sA S1 41 = upd (sA S 41) f (nI a) ∧ sA S1 42 = upd (sA S 42) f (nI s)) → yOK A n S0 z0 fb a0 s ab S a c f (k, [(t, [kn, s], 0, 0)], sc, at') S1 := fun S1 hF h24 h7 hs0 hs1 => by
    have hL : ∀ x, sL S1 x = sL S x := fun x => hF.2.2.2.1 x (fun h => by cases h)
    have e3 : fxO (t, [kn, s], 0, 0) = if s = 0 then 0 else 1 := by
      unfold fxO
      by_cases h0 : s = 0
      · rw [if_pos h0]; exact if_neg (fun hc => hc.2.2 h0)
      · rw [if_neg h0]; exact if_pos ⟨by dsimp only; omega, by dsimp only; omega, h0⟩
    refine yOK_e h (by dsimp only; omega) (hF.1 _ (by decide)) (hF.mono (by decide) (fun _ h => h) (by decide) (fun _ h => by cases h)) ⟨fun i hi => ?_, fun _ _ => by rw [hL, hL]; exact ⟨rfl, rfl⟩, fun i hi => ?_⟩ (by rw [e1]; exact h7) (by rw [e2]; exact (hF.1 _ (by decide)).trans h.2.1.2.1) ?_ (by rw [e2]; omega) (by rw [e1]; omega) (by have := fxO_le (t, [kn, s], 0, 0); omega) (fun hx => ?_) (fun z' hz' hz2' => ⟨fun _ => ?_, fun h => ?_, fun _ => ⟨?_, q, ?_, ?_, ?_, fun h => ?_⟩, fun h => ?_, fun h => ?_, fun h => ?_, fun h => ?_, fun h => ?_⟩)
    · rw [h24, upd_at, upd_at, upd_at, if_neg (by omega), if_neg (by omega), if_neg (by omega)]
    · by_cases h0 : s = 0
      · rw [(hs0 h0).2.1, (hs0 h0).2.2]; exact ⟨rfl, rfl⟩
      · rw [(hs1 h0).2.1, (hs1 h0).2.2, upd_at, upd_at, if_neg (by omega), if_neg (by omega)]; exact ⟨rfl, rfl⟩
    · rw [e3]
      by_cases h0 : s = 0
      · rw [if_pos h0]; exact (hs0 h0).1
      · rw [if_neg h0]; exact (hs1 h0).1
    · rw [e3] at hx
      by_cases h0 : s = 0
      · rw [if_pos h0] at hx; cases hx
      · rw [(hs1 h0).2.1, (hs1 h0).2.2, upd_at, upd_at, if_pos rfl, if_pos rfl]; exact ⟨rfl, rfl⟩
    · rw [h24, upd_at, upd_at, upd_at, if_neg (by omega), if_neg (by omega), if_pos rfl]
      show nI t = nI (tgC t)
      rw [tgC_id (by omega)]
    rotate_left 1
    · rw [h24, upd_at, upd_at, if_neg (by omega), if_pos rfl]
    · obtain rfl : z' = z := nI_inj (by omega) (by omega) (hz'.symm.trans i4)
      exact i3
    · show qn (by1 A) n S1 kn q
      unfold qn nm_is c_is at i6 ⊢
      rw [hL 17, hL 18]
      exact i6
    · rw [h24, upd_at, if_pos rfl]
    all_goals (exfalso; dsimp only at h; omega)
  by_cases h0 : s = 0
  · have hs := h.2.1.2.2.2.1
    rw [h0] at hs
    exact ⟨_, scPut_out (d := d) h.2.1.1 ha hs, key _ (FrT_wI (by decide) (FrT_wA (by decide) (FrT_wA (by decide) (FrT_wA (by decide) (FrT.refl _ _ _ _ _))))) rfl (rIe _ _ _) (fun _ => ⟨by simp only [rI, rJI, rAI, rLI, reduceIte, Nat.reduceEqDiff]; exact h.2.1.2.2.1, rfl, rfl⟩) (fun hc => absurd h0 hc)⟩
  · exact ⟨_, scPut_in (d := d) h.2.1.1 ha h.2.1.2.2.2.1 (by omega) h.2.1.2.2.2.2 h.2.1.2.2.1 (by omega), key _ (FrT_wI (by decide) (FrT_wA (by decide) (FrT_wA (by decide) (FrT_wI (by decide) (FrT_wA (by decide) (FrT_wA (by decide) (FrT_wA (by decide) (FrT.refl _ _ _ _ _)))))))) rfl (by simp only [rI, rJI, rAI, rLI, reduceIte, Nat.reduceEqDiff]) (fun hc => absurd hc h0) (fun _ => ⟨rIe _ _ _, rfl, rfl⟩)⟩
/-- bindTo: what is on the stack becomes the name's -/
theorem bindTo_T {a c f k kn q : Nat} {sc : SCs} {at' : List Nat} {S : cS} (h : yG A n S0 z0 fb a0 s ab k sc at' a c f S) (hq : nmR (by1 A) n S kn (nI q)) (hqM : q < 4096) (hM : sc.2.length + 1 ≤ 1600) (ha : a + 3 ≤ 40960) (hf : f + 1 ≤ 1600) : ∃ S1, Ans (d + 11) 93 [.ref 43, .int (nI q)] S none S1 ∧ yOK A n S0 z0 fb a0 s ab S a c f (k, [(19, [kn, s], 0, 0)], scB (Eb (by1 A) n) s kn sc, at') S1 := by
  obtain ⟨S1, p1, p2⟩ := bound_T (d := d) h hq hqM hM
  have hG : yG A n S0 z0 fb a0 s ab k (scB (Eb (by1 A) n) s kn sc) at' a c f S1 := p2.1
  obtain ⟨S2, q1, q2⟩ := yE_N (d := d + 7) (t := 19) hG (nmR_K p2.2.2.2.1.2.2 hq) hqM (by omega) ha hf
  exact ⟨S2, Ans.of (by rw [ml_93]; exact Nat.le_of_ble_eq_true rfl) (Bod.lv (by rfl) (cBdt_1 (d := d + 2) (by omega) p1 (by omega) q1)), yOK_app p2 q2⟩
end
