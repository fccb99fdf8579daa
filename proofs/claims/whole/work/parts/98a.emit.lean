/-! STEPS PUT one at a time; what is read no more -/
theorem q_gt {β : Nat → Nat} {n k : Nat} (h : 3 ≤ qK β n k) : qP β n k < qE β n k ∧ qP β n k + 1 ≤ qP β n (k + 1) ∧ qP β n k < n ∧ qK β n (k + 1) ≠ 1 ∧ qL β n (k + 1) = qL β n k ∧ qI β n (k + 1) = qI β n k := by
  obtain ⟨p1, p2, p3, p4⟩ := q_parts (β := β) (n := n) (k := k) (by omega)
  have h1 := tk_end (β := β) p2
  rw [← p1] at h1
  dsimp only at h1
  have h2 := q_mono1 β n k
  have h3 := q_lt β n k
  obtain ⟨n1, n2, n3, n4⟩ := q_next (β := β) (n := n) (k := k) (by omega) (by omega)
  exact ⟨by omega, by omega, by omega, n4, n2, n3⟩
theorem q_run {β : Nat → Nat} {n k k1 : Nat} (hk : k ≤ k1) (h : ∀ j, k ≤ j → j < k1 → 3 ≤ qK β n j) : qP β n k + (k1 - k) ≤ qP β n k1 ∧ qL β n k1 = qL β n k ∧ qI β n k1 = qI β n k ∧ (k < k1 → qK β n k1 ≠ 1) := by
  induction k1 with
  | zero =>
    obtain rfl : k = 0 := by omega
    exact ⟨by omega, rfl, rfl, fun h => by omega⟩
  | succ k1 ih =>
    rcases Nat.lt_or_ge k1 k with h1 | h1
    · obtain rfl : k = k1 + 1 := by omega
      exact ⟨by omega, rfl, rfl, fun h => by omega⟩
    · obtain ⟨a1, a2, a3, a4⟩ := ih h1 (fun j h2 h3 => h j h2 (by omega))
      obtain ⟨b1, b2, b3, b4, b5, b6⟩ := q_gt (h k1 h1 (by omega))
      exact ⟨by omega, b5.trans a2, b6.trans a3, fun _ => b4⟩
theorem cP_NT {A : Nat → Int32} {n z0 k : Nat} {S0 S : cS} (h : cP A n S0 z0 k S) : ∃ z, sI S 1607 = nI z ∧ z ≤ 4096 ∧ z0 ≤ z ∧ c_NT S z := by
  obtain ⟨z, h1, h2, h3⟩ := h
  exact ⟨z, h3.1.2.1.1, h3.1.2.1.2.1, h3.1.1, h3.1.2.1⟩
theorem cP_name {A : Nat → Int32} {n z0 k : Nat} {S0 S : cS} (h : cP A n S0 z0 k S) (hk : qK (by1 A) n k = 3) : ∃ q z, sI S 3109 = nI q ∧ 24 ≤ q ∧ q < z ∧ sI S 1607 = nI z ∧ z ≤ 4096 ∧ qn (by1 A) n S k q := by
  obtain ⟨z, h1, h2, h3⟩ := h
  obtain ⟨q, q1, q2, q3, q4⟩ := (h2.2.2.2 (by omega)).2.2.2.2.2.2.1 hk
  exact ⟨q, z, q3, q1, q2, h3.1.2.1.1, h3.1.2.1.2.1, q4⟩
/-- one more step: what is put, and all else as it was -/
theorem emit {A : Nat → Int32} {n z0 fb a c f cur k g : Nat} {S0 S S1 : cS} {o : Op} (hP : cP A n S0 z0 k S) (hS : eS S a c f cur) (hc : c + cnO o ≤ 5200) (hF : FrT [2307, 2308, 3214, 4403, 4404] [] [24, 41, 42] [25, 26] S S1) (hk : kP a c f S S1) (h7 : sI S1 2307 = nI (a + lC o)) (h8 : sI S1 2308 = nI (c + cnO o)) (h14 : sI S1 3214 = nI (f + fxN cur [o])) (hfx : cur ≠ 0 → nmO o = 1 → sA S1 41 f = nI a ∧ sA S1 42 f = nI cur) (ho : ∀ z, sI S 1607 = nI z → z ≤ 4096 → oC (by1 A) n S1 z (c + cnO o) fb a o) (hg : sI S1 4403 = nI g) (htg : g ≠ 0 → sI S1 4404 = nI (a + lC o - tl1 g)) : eOK A n S0 z0 fb S a c f cur k g [o] S1 := by
  have e1 : ∀ i, i ∈ [3102, 3103, 3104, 3105, 3106, 3107, 3108, 3109, 3113, 1607] → i ∉ [2307, 2308, 3214, 4403, 4404] := by decide
  have e2 : ∀ a, a ∈ [1, 19, 20] → a ∉ [24, 41, 42] := by decide
  have e3 : ∀ a, a ∈ [17, 18] → a ∉ [25, 26] := by decide
  have hP1 : cP A n S0 z0 k S1 := cP_S hP (fun i hi => hF.1 i (e1 i hi)) (fun i hi => hF.2.1 i (fun h => by cases h)) (fun a ha => hF.2.2.1 a (e2 a ha)) (fun a ha => hF.2.2.2.1 a (e3 a ha))
  obtain ⟨z, z1, z2, z3, z4⟩ := cP_NT hP
  have hw : wC [o] = lC o := Nat.add_zero _
  have hcn : cnN [o] = cnO o := Nat.add_zero _
  refine ⟨hP1, by rw [hw, hcn]; exact ⟨h7, h8, h14, (hF.1 _ (by decide)).trans hS.2.2.2.1, hS.2.2.2.2⟩, ⟨z, c + cnO o, (hF.1 _ (by decide)).trans z1, z2, h8, hc, ho z z1 z2, trivial⟩, fun hcur => ⟨fun h => hfx hcur h, trivial⟩, ⟨hF.mono (by decide) (fun _ h => by cases h) (by decide) (by decide), hk, cP_nK hP (hF.1 _ (by decide)) (fun a ha => hF.2.2.2.1 a (e3 a ha))⟩, hg, fun h => by rw [hw]; exact htg h⟩
theorem fxN_0 {cur : Nat} {o : Op} (h : nmO o = 0) : fxN cur [o] = 0 := by
  unfold fxN
  split
  · rfl
  · show nmO o + 0 = 0; omega
theorem fxN_1 {cur : Nat} {o : Op} (h : nmO o = 1) (hc : cur ≠ 0) : fxN cur [o] = 1 := by
  unfold fxN
  rw [if_neg hc]
  show nmO o + 0 = 1
  omega
theorem kP_w {a c f : Nat} {S S1 : cS} (h24 : ∀ i, i < a → sA S1 24 i = sA S 24 i) (h25 : sL S1 25 = sL S 25) (h26 : sL S1 26 = sL S 26) (h41 : sA S1 41 = sA S 41) (h42 : sA S1 42 = sA S 42) : kP a c f S S1 := ⟨h24, fun i _ => ⟨by rw [h25], by rw [h26]⟩, fun i _ => ⟨by rw [h41], by rw [h42]⟩⟩
/-- a step of one word -/
theorem op1 {A : Nat → Int32} {n z0 fb a c f cur k t : Nat} {p : List Nat} {S0 S : cS} (hP : cP A n S0 z0 k S) (hS : eS S a c f cur) (hc : c ≤ 5200) (ht : 25 ≤ t ∧ t ≤ 43) : eOK A n S0 z0 fb S a c f cur k 0 [(t, p, 0, 0)] (wI 4403 (nI 0) (wI 2307 (nI (a + 1)) (wA 24 a (nI t) S))) := by
  have h0 : nmO (t, p, 0, 0) = 0 := nmO_op (by omega)
  have h1 : cnO (t, p, 0, 0) = 0 := cnO_op (by omega)
  have h2 : lC (t, p, 0, 0) = 1 := lC_op ht
  refine emit hP hS (by omega) (FrT_wI (by decide) (FrT_wI (by decide) (FrT_wA (by decide) (FrT.refl _ _ _ _ _)))) (kP_w (fun i hi => ?_) rfl rfl rfl rfl) ?_ ?_ ?_ (fun _ h => by omega) (fun z hz hz2 => ?_) (rIe _ _ _) (fun h => absurd rfl h)
  · show upd (sA S 24) a (nI t) i = _; exact if_neg (by omega)
  · rw [h2]; simp only [rI, rJI, rAI, rLI, reduceIte, Nat.reduceEqDiff]
  · rw [h1]; simp only [rI, rJI, rAI, rLI, reduceIte, Nat.reduceEqDiff]; exact hS.2.1
  · rw [fxN_0 h0]; simp only [rI, rJI, rAI, rLI, reduceIte, Nat.reduceEqDiff]; exact hS.2.2.1
  · refine ⟨fun _ => ?_, fun h => ?_, fun h => ?_, fun h => ?_, fun h => ?_, fun h => ?_, fun h => ?_, fun h => ?_⟩
    · show upd (sA S 24) a (nI t) a = nI (tgC t)
      rw [tgC_id (t := t) (by omega)]
      exact if_pos rfl
    all_goals (exfalso; dsimp only at h; omega)
theorem opI {A : Nat → Int32} {n z0 fb a c f cur k : Nat} {S0 S : cS} (hP : cP A n S0 z0 k S) (hS : eS S a c f cur) (hc : c ≤ 5200) : eOK A n S0 z0 fb S a c f cur k 2 [(39, [], 0, 0)] (wI 4403 (nI 2) (wI 4404 (nI a) (wI 2307 (nI (a + 1)) (wA 24 a (nI 39) S)))) := by
  have h2 : lC (39, [], 0, 0) = 1 := rfl
  refine emit hP hS hc (FrT_wI (by decide) (FrT_wI (by decide) (FrT_wI (by decide) (FrT_wA (by decide) (FrT.refl _ _ _ _ _))))) (kP_w (fun i hi => ?_) rfl rfl rfl rfl) ?_ ?_ ?_ (fun _ h => by cases h) (fun z hz hz2 => ?_) (rIe _ _ _) (fun _ => ?_)
  · show upd (sA S 24) a (nI 39) i = _; exact if_neg (by omega)
  · simp only [rI, rJI, rAI, rLI, reduceIte, Nat.reduceEqDiff]; rfl
  · simp only [rI, rJI, rAI, rLI, reduceIte, Nat.reduceEqDiff]; exact hS.2.1
  · rw [fxN_0 rfl]; simp only [rI, rJI, rAI, rLI, reduceIte, Nat.reduceEqDiff]; exact hS.2.2.1
  · refine ⟨fun _ => if_pos rfl, fun h => ?_, fun h => ?_, fun h => ?_, fun h => ?_, fun h => ?_, fun h => ?_, fun h => ?_⟩
    all_goals (exfalso; dsimp only at h; omega)
  · simp only [rI, rJI, rAI, rLI, reduceIte, Nat.reduceEqDiff]; exact congrArg nI (by show a = a + 1 - 1; omega)
/-- a step of two words: how many -/
theorem op2 {A : Nat → Int32} {n z0 fb a c f cur k t m : Nat} {S0 S : cS} (hP : cP A n S0 z0 k S) (hS : eS S a c f cur) (hc : c ≤ 5200) (ht : t = 49 ∨ t = 50 ∨ t = 51) : eOK A n S0 z0 fb S a c f cur k 0 [(t, [m], 0, 0)] (wI 4403 (nI 0) (wI 2307 (nI (a + 2)) (wA 24 (a + 1) (nI m) (wA 24 a (nI t) S)))) := by
  have h0 : nmO (t, [m], 0, 0) = 0 := nmO_op (by omega)
  have h1 : cnO (t, [m], 0, 0) = 0 := cnO_op (by omega)
  have h2 : lC (t, [m], 0, 0) = 2 := lC_2 (by dsimp only; omega)
  refine emit hP hS (by omega) (FrT_wI (by decide) (FrT_wI (by decide) (FrT_wA (by decide) (FrT_wA (by decide) (FrT.refl _ _ _ _ _))))) (kP_w (fun i hi => ?_) rfl rfl rfl rfl) ?_ ?_ ?_ (fun _ h => by omega) (fun z hz hz2 => ?_) (rIe _ _ _) (fun h => absurd rfl h)
  · show upd (upd (sA S 24) a (nI t)) (a + 1) (nI m) i = _
    rw [upd_at, upd_at, if_neg (by omega), if_neg (by omega)]
  · rw [h2]; simp only [rI, rJI, rAI, rLI, reduceIte, Nat.reduceEqDiff]
  · rw [h1]; simp only [rI, rJI, rAI, rLI, reduceIte, Nat.reduceEqDiff]; exact hS.2.1
  · rw [fxN_0 h0]; simp only [rI, rJI, rAI, rLI, reduceIte, Nat.reduceEqDiff]; exact hS.2.2.1
  · refine ⟨fun _ => ?_, fun h => ?_, fun h => ?_, fun h => ?_, fun h => ?_, fun h => ?_, fun h => ?_, fun h => ?_⟩
    · show upd (upd (sA S 24) a (nI t)) (a + 1) (nI m) a = nI (tgC t)
      rw [upd_at, upd_at, if_neg (by omega), if_pos rfl, tgC_id (t := t) (by omega)]
    · exfalso; dsimp only at h; omega
    · exfalso; dsimp only at h; omega
    · exfalso; dsimp only at h; omega
    · exfalso; dsimp only at h; omega
    · show upd (upd (sA S 24) a (nI t)) (a + 1) (nI m) (a + 1) = nI m
      exact if_pos rfl
    · exfalso; dsimp only at h; omega
    · exfalso; dsimp only at h; omega
theorem opA {A : Nat → Int32} {n z0 fb a c f cur k q : Nat} {S0 S : cS} (hP : cP A n S0 z0 k S) (hS : eS S a c f cur) (hc : c ≤ 5200) (hk : qK (by1 A) n k = 3) (hq : sI S 3109 = nI q) (hq4 : q < 4096) : eOK A n S0 z0 fb S a c f cur k 3 [(44, [k], 0, 0)] (wI 4403 (nI 3) (wI 4404 (nI a) (wI 2307 (nI (a + 2)) (wA 24 (a + 1) (nI q) (wA 24 a (nI 44) S))))) := by
  obtain ⟨q2, z2, i1, i2, i3, i4, i5, i6⟩ := cP_name hP hk
  obtain rfl : q2 = q := nI_inj (by omega) (by omega) (i1.symm.trans hq)
  refine emit hP hS hc (FrT_wI (by decide) (FrT_wI (by decide) (FrT_wI (by decide) (FrT_wA (by decide) (FrT_wA (by decide) (FrT.refl _ _ _ _ _)))))) (kP_w (fun i hi => ?_) rfl rfl rfl rfl) ?_ ?_ ?_ (fun _ h => by cases h) (fun z hz hz2 => ?_) (rIe _ _ _) (fun _ => ?_)
  · show upd (upd (sA S 24) a (nI 44)) (a + 1) (nI q2) i = _
    rw [upd_at, upd_at, if_neg (by omega), if_neg (by omega)]
  · simp only [rI, rJI, rAI, rLI, reduceIte, Nat.reduceEqDiff]; rfl
  · simp only [rI, rJI, rAI, rLI, reduceIte, Nat.reduceEqDiff]; exact hS.2.1
  · rw [fxN_0 rfl]; simp only [rI, rJI, rAI, rLI, reduceIte, Nat.reduceEqDiff]; exact hS.2.2.1
  · obtain rfl : z = z2 := nI_inj (by omega) (by omega) (hz.symm.trans i4)
    refine ⟨fun _ => ?_, fun h => ?_, fun h => ?_, fun h => ?_, fun h => ⟨q2, i3, i6, if_pos rfl⟩, fun h => ?_, fun h => ?_, fun h => ?_⟩
    · show upd (upd (sA S 24) a (nI 44)) (a + 1) (nI q2) a = nI 44
      rw [upd_at, upd_at, if_neg (by omega), if_pos rfl]
    all_goals (exfalso; dsimp only at h; omega)
  · simp only [rI, rJI, rAI, rLI, reduceIte, Nat.reduceEqDiff]; exact congrArg nI (by show a = a + 2 - 2; omega)
/-- a constant -/
theorem opC {A : Nat → Int32} {n z0 fb a c f cur k kc : Nat} {S0 S : cS} (hP : cP A n S0 z0 k S) (hS : eS S a c f cur) (hc : c < 5200) (h4 : sI S 4403 = nI 0) : eOK A n S0 z0 fb S a c f cur k 0 [(16, [kc], 0, 0)] (wI 2307 (nI (a + 2)) (wA 24 (a + 1) (nI c) (wA 24 a (nI 16) (wI 2308 (nI (c + 1)) (wL 26 c (cvL (by1 A) n kc) (wL 25 c (cvH (by1 A) n kc) S)))))) := by
  refine emit hP hS hc (FrT_wI (by decide) (FrT_wA (by decide) (FrT_wA (by decide) (FrT_wI (by decide) (FrT_wL (by decide) (FrT_wL (by decide) (FrT.refl _ _ _ _ _))))))) ⟨fun i hi => ?_, fun i hi => ⟨if_neg (by omega), if_neg (by omega)⟩, fun i _ => ⟨rfl, rfl⟩⟩ ?_ ?_ ?_ (fun _ h => by cases h) (fun z hz hz2 => ?_) ?_ (fun h => absurd rfl h)
  · show upd (upd (sA S 24) a (nI 16)) (a + 1) (nI c) i = _
    rw [upd_at, upd_at, if_neg (by omega), if_neg (by omega)]
  · simp only [rI, rJI, rAI, rLI, reduceIte, Nat.reduceEqDiff]; rfl
  · simp only [rI, rJI, rAI, rLI, reduceIte, Nat.reduceEqDiff]; rfl
  · rw [fxN_0 rfl]; simp only [rI, rJI, rAI, rLI, reduceIte, Nat.reduceEqDiff]; exact hS.2.2.1
  · refine ⟨fun _ => ?_, fun _ => ⟨c, by show c < c + 1; omega, if_pos rfl, ?_, ?_⟩, fun h => ?_, fun h => ?_, fun h => ?_, fun h => ?_, fun h => ?_, fun h => ?_⟩
    · show upd (upd (sA S 24) a (nI 16)) (a + 1) (nI c) a = nI 16
      rw [upd_at, upd_at, if_neg (by omega), if_pos rfl]
    · show _ = cvH (by1 A) n kc; exact if_pos rfl
    · show _ = cvL (by1 A) n kc; exact if_pos rfl
    all_goals (exfalso; dsimp only at h; omega)
  · simp only [rI, rJI, rAI, rLI, reduceIte, Nat.reduceEqDiff]; exact h4
/-- the words of a name's step -/
theorem opN {A : Nat → Int32} {n z0 fb a c f cur k kn q t : Nat} {S0 S S1 : cS} (hP : cP A n S0 z0 k S) (hS : eS S a c f cur) (hc : c ≤ 5200) (ht : t = 18 ∨ t = 19 ∨ t = 20) {g : Nat} (hq : ∃ z, q < z ∧ sI S 1607 = nI z ∧ z ≤ 4096 ∧ qn (by1 A) n S kn q) (hF : FrT [2307, 2308, 3214, 4403, 4404] [] [24, 41, 42] [25, 26] S S1) (h25 : sL S1 25 = sL S 25) (h26 : sL S1 26 = sL S 26) (h24 : sA S1 24 = upd (upd (upd (sA S 24) a (nI t)) (a + 1) (Int32.ofInt (-1))) (a + 2) (nI q)) (h7 : sI S1 2307 = nI (a + 3)) (h8 : sI S1 2308 = nI c) (h0 : cur = 0 → sI S1 3214 = nI f ∧ sA S1 41 = sA S 41 ∧ sA S1 42 = sA S 42) (h1 : cur ≠ 0 → sI S1 3214 = nI (f + 1) ∧ sA S1 41 = upd (sA S 41) f (nI a) ∧ sA S1 42 = upd (sA S 42) f (nI cur)) (hg : sI S1 4403 = nI g) (hgg : g = 0 ∨ g = 1) (htg : g ≠ 0 → sI S1 4404 = nI a) : eOK A n S0 z0 fb S a c f cur k g [(t, [kn], 0, 0)] S1 := by
  have h17 : sL S1 17 = sL S 17 := hF.2.2.2.1 _ (by decide)
  have h18 : sL S1 18 = sL S 18 := hF.2.2.2.1 _ (by decide)
  have e0 : nmO (t, [kn], 0, 0) = 1 := if_pos (by dsimp only; omega)
  have e1 : cnO (t, [kn], 0, 0) = 0 := cnO_op (by omega)
  have e2 : lC (t, [kn], 0, 0) = 3 := lC_n (by dsimp only; omega)
  obtain ⟨z2, j1, j2, j3, j4⟩ := hq
  refine emit hP hS (by omega) hF ⟨fun i hi => ?_, fun i _ => ⟨by rw [h25], by rw [h26]⟩, fun i hi => ?_⟩ (by rw [e2]; exact h7) (by rw [e1]; exact h8) ?_ (fun hcur _ => ?_) (fun z hz hz2 => ?_) hg (fun h => ?_)
  · rw [h24, upd_at, upd_at, upd_at, if_neg (by omega), if_neg (by omega), if_neg (by omega)]
  · by_cases hcur : cur = 0
    · rw [(h0 hcur).2.1, (h0 hcur).2.2]; exact ⟨rfl, rfl⟩
    · rw [(h1 hcur).2.1, (h1 hcur).2.2, upd_at, upd_at, if_neg (by omega), if_neg (by omega)]; exact ⟨rfl, rfl⟩
  · by_cases hcur : cur = 0
    · rw [show fxN cur [(t, [kn], 0, 0)] = 0 from if_pos hcur]; exact (h0 hcur).1
    · rw [fxN_1 e0 hcur]; exact (h1 hcur).1
  · rw [(h1 hcur).2.1, (h1 hcur).2.2, upd_at, upd_at, if_pos rfl, if_pos rfl]; exact ⟨rfl, rfl⟩
  · obtain rfl : z = z2 := nI_inj (by omega) (by omega) (hz.symm.trans j2)
    refine ⟨fun _ => ?_, fun h => ?_, fun h => ⟨?_, q, j1, ?_, ?_, fun h => ?_⟩, fun h => ?_, fun h => ?_, fun h => ?_, fun h => ?_, fun h => ?_⟩
    · rw [h24, upd_at, upd_at, upd_at, if_neg (by omega), if_neg (by omega), if_pos rfl]
      show nI t = nI (tgC t)
      rw [tgC_id (t := t) (by omega)]
    · exfalso; dsimp only at h; omega
    · rw [h24, upd_at, upd_at, if_neg (by omega), if_pos rfl]
    · unfold qn nm_is c_is at j4 ⊢
      rw [h17, h18]
      exact j4
    · rw [h24, upd_at, if_pos rfl]
    all_goals (exfalso; dsimp only at h; omega)
  · rw [htg h, e2]
    rcases hgg with rfl | rfl
    · exact absurd rfl h
    · exact congrArg nI (by show a = a + 3 - 3; omega)
/-- the constant none, of no token -/
theorem opZ {A : Nat → Int32} {n z0 fb a c f cur k : Nat} {S0 S : cS} (hP : cP A n S0 z0 k S) (hS : eS S a c f cur) (hc : c < 5200) {g : Nat} (h4 : sI S 4403 = nI g) (hg : g ≠ 0 → False) : eOK A n S0 z0 fb S a c f cur k g [(63, [], 0, 0)] (wI 2307 (nI (a + 2)) (wA 24 (a + 1) (nI c) (wA 24 a (nI 16) (wI 2308 (nI (c + 1)) (wL 26 c 0 (wL 25 c 1152921504606846976 S)))))) := by
  refine emit hP hS hc (FrT_wI (by decide) (FrT_wA (by decide) (FrT_wA (by decide) (FrT_wI (by decide) (FrT_wL (by decide) (FrT_wL (by decide) (FrT.refl _ _ _ _ _))))))) ⟨fun i hi => ?_, fun i hi => ⟨if_neg (by omega), if_neg (by omega)⟩, fun i _ => ⟨rfl, rfl⟩⟩ ?_ ?_ ?_ (fun _ h => by cases h) (fun z hz hz2 => ?_) ?_ (fun h => (hg h).elim)
  · show upd (upd (sA S 24) a (nI 16)) (a + 1) (nI c) i = _
    rw [upd_at, upd_at, if_neg (by omega), if_neg (by omega)]
  · simp only [rI, rJI, rAI, rLI, reduceIte, Nat.reduceEqDiff]; rfl
  · simp only [rI, rJI, rAI, rLI, reduceIte, Nat.reduceEqDiff]; rfl
  · rw [fxN_0 rfl]; simp only [rI, rJI, rAI, rLI, reduceIte, Nat.reduceEqDiff]; exact hS.2.2.1
  · refine ⟨fun _ => ?_, fun _ => ⟨c, by show c < c + 1; omega, if_pos rfl, ?_, ?_⟩, fun h => ?_, fun h => ?_, fun h => ?_, fun h => ?_, fun h => ?_, fun h => ?_⟩
    · show upd (upd (sA S 24) a (nI 16)) (a + 1) (nI c) a = nI 16
      rw [upd_at, upd_at, if_neg (by omega), if_pos rfl]
    · show _ = (1152921504606846976 : Int64); exact if_pos rfl
    · show _ = (0 : Int64); exact if_pos rfl
    all_goals (exfalso; dsimp only at h; omega)
  · simp only [rI, rJI, rAI, rLI, reduceIte, Nat.reduceEqDiff]; exact h4
