/-! LEAVING A LOOP in the class: break, continue -/
section
variable {A : Nat → Int32} {n z0 fb a0 s ab d : Nat} {S0 B : cS}
theorem yOK_app4 {a c f k1 : Nat} {os1 : List Op} {sc1 : SCs} {at1 : List Nat} {x : PT} {S S1 : cS} (h : yOK A n S0 z0 fb a0 s ab B a c f (k1, os1, sc1, at1) S) (g1 : yG A n S0 z0 fb a0 s ab x.1 x.2.2.1 x.2.2.2 (a + wC os1 + wC x.2.1) (c + cnN os1 + cnN x.2.1) (f + fxM os1 + fxM x.2.1) S1) (g2 : cd (by1 A) n S1 fb (a + wC os1) x.2.1) (g3 : fxS S1 (f + fxM os1) (a + wC os1) x.2.1) (g4 : yF fb (a + wC os1) (c + cnN os1) (f + fxM os1) ab S S1) : yG A n S0 z0 fb a0 s ab x.1 x.2.2.1 x.2.2.2 (a + wC (os1 ++ x.2.1)) (c + cnN (os1 ++ x.2.1)) (f + fxM (os1 ++ x.2.1)) S1 ∧ cd (by1 A) n S1 fb a (os1 ++ x.2.1) ∧ fxS S1 f a (os1 ++ x.2.1) ∧ yF fb a c f ab B S1 := by
  obtain ⟨h1, h2, h3, h4, h5, h6⟩ := h
  dsimp only at h1 h2 h3 h5 h6
  have hq := g4.2.1.1
  have hcc : c + cnN os1 ≤ 5200 := h1.2.2.2.2.2.2.2.2.2.2.2.2.2.1
  have hcc1 : c + cnN os1 + cnN x.2.1 ≤ 5200 := g1.2.2.2.2.2.2.2.2.2.2.2.2.2.1
  rw [wC_app, cnN_app, fxM_app, ← Nat.add_assoc, ← Nat.add_assoc, ← Nat.add_assoc]
  refine ⟨g1, cd_app ?_ g2, (fxS_app os1 f a).mpr ⟨fxS_mono os1 f a hq.2.2 (Nat.le_refl _) h3, g3⟩, yF_trans h4 g4 (by omega) (by omega) (by omega) (Nat.le_refl _)⟩
  obtain ⟨z, c', i1, i2, i3, i4, i5⟩ := h2
  obtain ⟨w, w1, j1, j2, j3, j4, j5⟩ := g4.2.2
  obtain rfl : z = w := nI_inj (by omega) (by omega) (i1.symm.trans j1)
  have hc' : c' = c + cnN os1 := nI_inj (by omega) (by omega) (i3.symm.trans h1.2.1.2.1)
  subst hc'
  exact ⟨w1, _, j2, j4, g1.2.1.2.1, hcc1, lsC_mono os1 a (hi := a + wC os1) ⟨j3, by omega, fun i _ h7 => hq.1 i h7, hq.2.1, j5⟩ (Nat.le_refl _) i5⟩
/-- a break is put: it waits for the loop's end -/
theorem yOK_brk {a c f k : Nat} {os : List Op} {sc : SCs} {at' : List Nat} {S S1 : cS} (h : yOK A n S0 z0 fb a0 s ab B a c f (k, os, sc, at') S) (hb : bks a os = []) (ho : 2 ≤ wC os) (ha : a + wC os + 2 ≤ 40960) (hF : FrT [2307, 4310] [] [24] [] S S1) (hw : ∀ i, sA S1 24 i = if i = a + wC os + 1 then sI S 4310 else if i = a + wC os then nI 4 else sA S 24 i) (h7 : sI S1 2307 = nI (a + wC os + 2)) (h10 : sI S1 4310 = nI (a + wC os)) : yOK A n S0 z0 fb a0 s ab B a c f (k, os ++ [(60, [], 0, 0)], sc, at') S1 := by
  have hG : yG A n S0 z0 fb a0 s ab k sc at' (a + wC os) (c + cnN os) (f + fxM os) S := h.1
  have e1 : lC (60, [], (0 : Int), (0 : Int)) = 2 := rfl
  have e2 : cnO (60, [], (0 : Int), (0 : Int)) = 0 := rfl
  have e3 : fxO (60, [], (0 : Int), (0 : Int)) = 0 := rfl
  have hc := hG.2.2.2.2.2.2.2.2.2.2.2.2.2.1
  have hf := hG.2.2.2.2.2.2.2.2.2.2.2.2.2.2.2.1
  have hL : ∀ x, sL S1 x = sL S x := fun x => hF.2.2.2.1 x (fun h => by cases h)
  have hoc : ∀ z, sI S 1607 = nI z → z ≤ 4096 → oC (by1 A) n S1 z (c + cnN os + cnO (60, [], (0 : Int), (0 : Int))) fb (a + wC os) (60, [], (0 : Int), (0 : Int)) := fun z _ _ => by
    refine ⟨fun _ => ?_, fun h => ?_, fun h => ?_, fun h => ?_, fun h => ?_, fun h => ?_, fun h => ?_, fun h => ?_⟩
    · rw [hw, if_neg (by omega), if_pos rfl]; rfl
    all_goals (exfalso; dsimp only at h; omega)
  obtain ⟨j1, j2, j3, j4⟩ := yG_e (o := (60, [], (0 : Int), (0 : Int))) hG (hF.mono (by decide) (fun _ h => h) (by decide) (fun _ h => by cases h)) ⟨fun i hi => by rw [hw, if_neg (by omega), if_neg (by omega)], fun _ _ => by rw [hL, hL]; exact ⟨rfl, rfl⟩, fun _ _ => by rw [hF.2.2.1 41 (by decide), hF.2.2.1 42 (by decide)]; exact ⟨rfl, rfl⟩⟩ h7 ((hF.1 _ (by decide)).trans hG.2.1.2.1) ((hF.1 _ (by decide)).trans hG.2.1.2.2.1) hc ha hf (fun h => by cases h) hoc
  obtain ⟨k1, k2, k3, k4⟩ := yOK_app4 (x := (k, [(60, [], (0 : Int), (0 : Int))], sc, at')) h j1 j2 j3 j4
  have hbk : bks a (os ++ [(60, [], (0 : Int), (0 : Int))]) = [a + wC os] := by rw [bks_app, hb]; rfl
  have h5 := h.2.2.2.2.1
  dsimp only at h5
  rw [hb] at h5
  refine ⟨k1, k2, k3, k4, ?_, ?_⟩
  · dsimp only
    rw [hbk]
    exact ⟨h10, by rw [hw, if_pos rfl]; exact h5⟩
  · dsimp only
    rw [hbk, wC_app]
    exact ⟨Nat.le_refl _, by omega, by omega, trivial⟩
theorem yE_brk {a c f k : Nat} {os : List Op} {sc : SCs} {at' : List Nat} {S : cS} (h : yOK A n S0 z0 fb a0 s ab B a c f (k, os, sc, at') S) (hb : bks a os = []) (ho : 2 ≤ wC os) (ha : a + wC os + 2 ≤ 40960) : ∃ S1, Ans (d + 2) 54 [.ref 23, .int (nI 4), .int (sI S 4310)] S (some (.int (nI (a + wC os)))) S1 ∧ yOK A n S0 z0 fb a0 s ab B a c f (k, os ++ [(60, [], 0, 0)], sc, at') (wI 4310 (nI (a + wC os)) S1) :=
  ⟨_, put2_ev (d := d) h.1.2.1.1 ha, yOK_brk h hb ho ha (FrT_wI (by decide) (FrT_wI (by decide) (FrT_wA (by decide) (FrT_wA (by decide) (FrT.refl _ _ _ _ _))))) (fun i => by
    show upd (upd (sA S 24) (a + wC os) _) (a + wC os + 1) _ i = _
    rw [upd_at, upd_at]) (by simp only [rI, rJI, rAI, rLI, reduceIte, Nat.reduceEqDiff]) (rIe _ _ _)⟩
end
