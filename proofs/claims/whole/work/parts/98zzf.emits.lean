/-! EMISSIONS of the class's statements in a good state -/
section
variable {A : Nat → Int32} {n z0 fb a0 s ab d : Nat} {S0 B : cS}
theorem yE_1 {a c f k t : Nat} {p : List Nat} {sc : SCs} {at' : List Nat} {S : cS} (h : yG A n S0 z0 fb a0 s ab k sc at' a c f S) (ht : t = 0 ∨ t = 8 ∨ t = 9 ∨ t = 11 ∨ t = 14 ∨ t = 17 ∨ (25 ≤ t ∧ t ≤ 43)) (ha : a + 1 ≤ 40960) : ∃ S1, Ans (d + 2) 71 [.ref 23, .int (nI t)] S (some (.int (nI a))) S1 ∧ yOK A n S0 z0 fb a0 s ab S a c f (k, [(t, p, 0, 0)], sc, at') S1 ∧ FrT [2307] [] [24] [] S S1 := by
  have hF : FrT [2307] [] [24] [] S (wI 2307 (nI (a + 1)) (wA 24 a (nI t) S)) := FrT_wI (by decide) (FrT_wA (by decide) (FrT.refl _ _ _ _ _))
  have e1 : lC (t, p, 0, 0) = 1 := by
    unfold lC
    rw [if_neg (by dsimp only; omega), if_neg (by dsimp only; omega), if_neg (by dsimp only; omega), if_neg (by dsimp only; omega), if_pos (by dsimp only; omega)]
  have e2 : cnO (t, p, 0, 0) = 0 := by unfold cnO; exact if_neg (by dsimp only; omega)
  have e3 : fxO (t, p, 0, 0) = 0 := by unfold fxO; exact if_neg (by dsimp only; omega)
  have hc := h.2.2.2.2.2.2.2.2.2.2.2.2.2.1
  have hf := h.2.2.2.2.2.2.2.2.2.2.2.2.2.2.2.1
  refine ⟨_, put1_ev (d := d) h.2.1.1 ha, yOK_e h (by dsimp only; omega) (hF.1 _ (by decide)) (hF.mono (by decide) (fun _ h => h) (by decide) (fun _ h => by cases h)) ⟨fun i hi => ?_, fun _ _ => ⟨rfl, rfl⟩, fun _ _ => ⟨rfl, rfl⟩⟩ (by rw [e1]; exact rIe _ _ _) (by rw [e2]; exact (hF.1 _ (by decide)).trans h.2.1.2.1) (by rw [e3]; exact (hF.1 _ (by decide)).trans h.2.1.2.2.1) (by rw [e2]; omega) (by rw [e1]; omega) (by rw [e3]; omega) (fun h => by rw [e3] at h; cases h) (fun z _ _ => ⟨fun _ => ?_, fun h => ?_, fun h => ?_, fun h => ?_, fun h => ?_, fun h => ?_, fun h => ?_, fun h => ?_⟩), hF⟩
  · show upd (sA S 24) a (nI t) i = _
    rw [upd_at, if_neg (by omega)]
  · show upd (sA S 24) a (nI t) a = nI (tgC t)
    rw [upd_at, if_pos rfl, tgC_id (by omega)]
  all_goals (exfalso; dsimp only at h; omega)
theorem yE_2 {a c f k t m : Nat} {sc : SCs} {at' : List Nat} {S : cS} (h : yG A n S0 z0 fb a0 s ab k sc at' a c f S) (ht : t = 1 ∨ t = 2 ∨ t = 3 ∨ t = 13 ∨ t = 15 ∨ t = 24) (ha : a + 2 ≤ 40960) : ∃ S1, Ans (d + 2) 54 [.ref 23, .int (nI t), .int (nI m)] S (some (.int (nI a))) S1 ∧ yOK A n S0 z0 fb a0 s ab S a c f (k, [(t, [m], 0, 0)], sc, at') S1 ∧ FrT [2307] [] [24] [] S S1 := by
  have hF : FrT [2307] [] [24] [] S (wI 2307 (nI (a + 2)) (wA 24 (a + 1) (nI m) (wA 24 a (nI t) S))) := FrT_wI (by decide) (FrT_wA (by decide) (FrT_wA (by decide) (FrT.refl _ _ _ _ _)))
  have e1 : lC (t, [m], 0, 0) = 2 := lC_2 (by dsimp only; omega)
  have e2 : cnO (t, [m], 0, 0) = 0 := by unfold cnO; exact if_neg (by dsimp only; omega)
  have e3 : fxO (t, [m], 0, 0) = 0 := by unfold fxO; exact if_neg (by dsimp only; omega)
  have hc := h.2.2.2.2.2.2.2.2.2.2.2.2.2.1
  have hf := h.2.2.2.2.2.2.2.2.2.2.2.2.2.2.2.1
  refine ⟨_, put2_ev (d := d) h.2.1.1 ha, yOK_e h (by dsimp only; omega) (hF.1 _ (by decide)) (hF.mono (by decide) (fun _ h => h) (by decide) (fun _ h => by cases h)) ⟨fun i hi => ?_, fun _ _ => ⟨rfl, rfl⟩, fun _ _ => ⟨rfl, rfl⟩⟩ (by rw [e1]; exact rIe _ _ _) (by rw [e2]; exact (hF.1 _ (by decide)).trans h.2.1.2.1) (by rw [e3]; exact (hF.1 _ (by decide)).trans h.2.1.2.2.1) (by rw [e2]; omega) (by rw [e1]; omega) (by rw [e3]; omega) (fun h => by rw [e3] at h; cases h) (fun z _ _ => ⟨fun _ => ?_, fun h => ?_, fun h => ?_, fun h => ?_, fun h => ?_, fun _ => ?_, fun h => ?_, fun h => ?_⟩), hF⟩
  · show upd (upd (sA S 24) a (nI t)) (a + 1) (nI m) i = _
    rw [upd_at, upd_at, if_neg (by omega), if_neg (by omega)]
  · show upd (upd (sA S 24) a (nI t)) (a + 1) (nI m) a = nI (tgC t)
    rw [upd_at, upd_at, if_neg (by omega), if_pos rfl, tgC_id (by omega)]
  rotate_left 4
  · show upd (upd (sA S 24) a (nI t)) (a + 1) (nI m) (a + 1) = nI m
    rw [upd_at, if_pos rfl]
  all_goals (exfalso; dsimp only at h; omega)
/-- a jump: its place is told later, v says where to -/
theorem yE_J {a c f k t u : Nat} {w : Int32} {sc : SCs} {at' : List Nat} {S : cS} (h : yG A n S0 z0 fb a0 s ab k sc at' a c f S) (ht : (4 ≤ t ∧ t ≤ 7) ∨ t = 10 ∨ t = 12 ∨ t = 62) (hu : u = tgC t) (ha : a + 2 ≤ 40960) : ∃ S1, Ans (d + 2) 54 [.ref 23, .int (nI u), .int w] S (some (.int (nI a))) S1 ∧ FrT [2307] [] [24] [] S S1 ∧ yG A n S0 z0 fb a0 s ab k sc at' (a + 2) c f S1 ∧ sA S1 24 (a + 1) = w ∧ sA S1 24 a = nI u ∧ (∀ i, i < a → sA S1 24 i = sA S 24 i) ∧ ∀ (v : Nat) (j r : Int), (v : Int) = a + j → yOK A n S0 z0 fb a0 s ab S a c f (k, [(t, [], j, r)], sc, at') (wA 24 (a + 1) (nI v) S1) := by
  have hF : FrT [2307] [] [24] [] S (wI 2307 (nI (a + 2)) (wA 24 (a + 1) w (wA 24 a (nI u) S))) := FrT_wI (by decide) (FrT_wA (by decide) (FrT_wA (by decide) (FrT.refl _ _ _ _ _)))
  have hlow : ∀ i, i < a → sA (wI 2307 (nI (a + 2)) (wA 24 (a + 1) w (wA 24 a (nI u) S))) 24 i = sA S 24 i := fun i hi => by
    show upd (upd (sA S 24) a (nI u)) (a + 1) w i = _
    rw [upd_at, upd_at, if_neg (by omega), if_neg (by omega)]
  have hc := h.2.2.2.2.2.2.2.2.2.2.2.2.2.1
  have hf := h.2.2.2.2.2.2.2.2.2.2.2.2.2.2.2.1
  have hgo : ∀ (v : Nat) (j r : Int), (v : Int) = a + j → yOK A n S0 z0 fb a0 s ab S a c f (k, [(t, [], j, r)], sc, at') (wA 24 (a + 1) (nI v) (wI 2307 (nI (a + 2)) (wA 24 (a + 1) w (wA 24 a (nI u) S)))) := fun v j r hv => by
    have e1 : lC (t, [], j, r) = 2 := lC_2 (by dsimp only; omega)
    have e2 : cnO (t, [], j, r) = 0 := by unfold cnO; exact if_neg (by dsimp only; omega)
    have e3 : fxO (t, [], j, r) = 0 := by unfold fxO; exact if_neg (by dsimp only; omega)
    have hF2 : FrT [2307] [] [24] [] S (wA 24 (a + 1) (nI v) (wI 2307 (nI (a + 2)) (wA 24 (a + 1) w (wA 24 a (nI u) S)))) := FrT_wA (by decide) hF
    refine yOK_e h (by dsimp only; omega) (hF2.1 _ (by decide)) (hF2.mono (by decide) (fun _ h => h) (by decide) (fun _ h => by cases h)) ⟨fun i hi => ?_, fun _ _ => ⟨rfl, rfl⟩, fun _ _ => ⟨rfl, rfl⟩⟩ (by rw [e1]; exact (rAI _ _ _ _ _).trans (rIe _ _ _)) (by rw [e2]; exact (hF2.1 _ (by decide)).trans h.2.1.2.1) (by rw [e3]; exact (hF2.1 _ (by decide)).trans h.2.1.2.2.1) (by rw [e2]; omega) (by rw [e1]; omega) (by rw [e3]; omega) (fun h => by rw [e3] at h; cases h) (fun z _ _ => ⟨fun _ => ?_, fun h => ?_, fun h => ?_, fun _ => ⟨v, ?_, hv⟩, fun h => ?_, fun h => ?_, fun h => ?_, fun h => ?_⟩)
    · show upd (upd (upd (sA S 24) a (nI u)) (a + 1) w) (a + 1) (nI v) i = _
      rw [upd_at, upd_at, upd_at, if_neg (by omega), if_neg (by omega), if_neg (by omega)]
    · show upd (upd (upd (sA S 24) a (nI u)) (a + 1) w) (a + 1) (nI v) a = nI (tgC t)
      rw [upd_at, upd_at, upd_at, if_neg (by omega), if_neg (by omega), if_pos rfl, hu]
    rotate_left 2
    · show upd (upd (upd (sA S 24) a (nI u)) (a + 1) w) (a + 1) (nI v) (a + 1) = nI v
      rw [upd_at, if_pos rfl]
    all_goals (exfalso; dsimp only at h; omega)
  refine ⟨_, put2_ev (d := d) h.2.1.1 ha, hF, ?_, ?_, ?_, hlow, hgo⟩
  · have e1 : lC (t, [], (0 : Int), (0 : Int)) = 2 := lC_2 (by dsimp only; omega)
    have e2 : cnO (t, [], (0 : Int), (0 : Int)) = 0 := by unfold cnO; exact if_neg (by dsimp only; omega)
    have e3 : fxO (t, [], (0 : Int), (0 : Int)) = 0 := by unfold fxO; exact if_neg (by dsimp only; omega)
    have h2 := (hgo a 0 0 (by omega)).1
    dsimp only at h2
    rw [show wC [(t, [], (0 : Int), (0 : Int))] = 2 from (Nat.add_zero _).trans e1, show cnN [(t, [], (0 : Int), (0 : Int))] = 0 from (Nat.add_zero _).trans e2, show fxM [(t, [], (0 : Int), (0 : Int))] = 0 from (Nat.add_zero _).trans e3] at h2
    exact yG_W h2 ((FrT_wA (by decide) (FrT.refl _ _ _ _ _)).symm)
  · show upd (upd (sA S 24) a (nI u)) (a + 1) w (a + 1) = w
    rw [upd_at, if_pos rfl]
  · show upd (upd (sA S 24) a (nI u)) (a + 1) w a = nI u
    rw [upd_at, upd_at, if_neg (by omega), if_pos rfl]
/-- the constant none -/
theorem yE_Z {a c f k : Nat} {sc : SCs} {at' : List Nat} {S : cS} (h : yG A n S0 z0 fb a0 s ab k sc at' a c f S) (ha : a + 2 ≤ 40960) (hc : c + 1 ≤ 5200) : ∃ S1, Ans (d + 3) 73 [.ref 23, .long 1152921504606846976, .long 0] S none S1 ∧ yOK A n S0 z0 fb a0 s ab S a c f (k, [(63, [], 0, 0)], sc, at') S1 := by
  have hF : FrT [2307, 2308] [] [24] [25, 26] S (wI 2307 (nI (a + 2)) (wA 24 (a + 1) (nI c) (wA 24 a (nI 16) (wI 2308 (nI (c + 1)) (wL 26 c 0 (wL 25 c 1152921504606846976 S)))))) := FrT_wI (by decide) (FrT_wA (by decide) (FrT_wA (by decide) (FrT_wI (by decide) (FrT_wL (by decide) (FrT_wL (by decide) (FrT.refl _ _ _ _ _))))))
  have hf := h.2.2.2.2.2.2.2.2.2.2.2.2.2.2.2.1
  refine ⟨_, putConstant_ev (d := d) h.2.1.1 h.2.1.2.1 ha (by omega), yOK_e h (by dsimp only; omega) (hF.1 _ (by decide)) (hF.mono (by decide) (fun _ h => h) (by decide) (fun _ h => h)) ⟨fun i hi => ?_, fun i hi => ⟨if_neg (by omega), if_neg (by omega)⟩, fun _ _ => ⟨rfl, rfl⟩⟩ (rIe _ _ _) ?_ ((hF.1 _ (by decide)).trans h.2.1.2.2.1) hc ha hf (fun h => by cases h) (fun z _ _ => ⟨fun _ => ?_, fun _ => ⟨c, by show c < c + 1; omega, ?_, ?_, ?_⟩, fun h => ?_, fun h => ?_, fun h => ?_, fun h => ?_, fun h => ?_, fun h => ?_⟩)⟩
  · show upd (upd (sA S 24) a (nI 16)) (a + 1) (nI c) i = _
    rw [upd_at, upd_at, if_neg (by omega), if_neg (by omega)]
  · simp only [rI, rJI, rAI, rLI, reduceIte, Nat.reduceEqDiff]; rfl
  · show upd (upd (sA S 24) a (nI 16)) (a + 1) (nI c) a = nI 16
    rw [upd_at, upd_at, if_neg (by omega), if_pos rfl]
  · show upd (upd (sA S 24) a (nI 16)) (a + 1) (nI c) (a + 1) = nI c
    rw [upd_at, if_pos rfl]
  · show _ = (1152921504606846976 : Int64); exact if_pos rfl
  · show _ = (0 : Int64); exact if_pos rfl
  all_goals (exfalso; dsimp only at h; omega)
end
