/-! A TEXT in the class: names get their places; its good end -/
section
variable {A : Nat → Int32} {n z0 fb a0 s ab d : Nat} {S0 B : cS}
theorem settle_T {a c k1 : Nat} {os : List Op} {sc : SCs} {at' : List Nat} {S : cS} (h : yOK A n S0 z0 fb a0 s ab B a c 0 (k1, os, sc, at') S) (hs : ∀ o, o ∈ os → fxO o = 1 → o.2.1.getD 1 0 < sc.1.length) : ∃ S1 z, Ans (d + 12) 123 [.ref 32] S none S1 ∧ FrT [] [] [24, 29, 39] [] S S1 ∧ (∀ i, i < a → sA S1 24 i = sA S 24 i) ∧ (∀ x, x < fb → sA S1 29 x = sA S 29 x) ∧ sI S1 1607 = nI z ∧ z ≤ 4096 ∧ lsF sc (by1 A) n S1 z (c + cnN os) fb a os ∧ sSE fb sc sc.2.length S1 := by
  obtain ⟨hG, hcd, hfx, _, _, _⟩ := h
  obtain ⟨g1, g2, g3, g4, g5, g6, g7, g8, g9, g10, g11, g12, _, g14, g15, g16, g17, g18, g19⟩ := hG
  dsimp only at g1 g2 g3 g4 g5 g6 g7 g8 g9 g10 g11 g12 g14 g15 g16 hcd hfx
  obtain ⟨z, z1, z2, z3, z4⟩ := cP_NT g1
  obtain ⟨z', c', i1, i2, i3, i4, i5⟩ := hcd
  obtain rfl : z = z' := nI_inj (by omega) (by omega) (z1.symm.trans i1)
  have hc' : c' = c + cnN os := nI_inj (by omega) (by omega) (i3.symm.trans g2.2.1)
  subst hc'
  obtain ⟨S1, p1, p2, p3, p4⟩ := seA_L (d := d + 1) (fb := fb) (sc := sc) (fun e he => ⟨g8.1 e he, g8.2.2.2 e he⟩) g17 g18 g19 sc.2.length 0 S (Nat.add_zero _) (sSE_0 g6 g5)
  have hL1 : ∀ x, sL S1 x = sL S x := fun x => p1.2.2.2.1 x (fun h => by cases h)
  obtain ⟨S2, q1, q2, q3, q4, q5⟩ := seB_L (d := d) (S := S) (top := a + wC os) (tot := 0 + fxM os) g6 g8 z4 z1 z2 g18 g17 g15 g16 os a 0 S1 (p1.mono (fun _ h => h) (fun _ h => h) (by decide) (fun _ h => h)) (fun e he hk => p3.2.2.2 e he hk) g2.1 g2.2.2.1 (lsC_mono (S := S) os a (hi := a + wC os) ⟨Nat.le_refl _, Nat.le_refl _, fun i _ _ => by rw [p1.2.2.1 24 (by decide)], fun i _ => by rw [hL1, hL1]; exact ⟨rfl, rfl⟩, fun i _ => by rw [hL1, hL1]; exact ⟨rfl, rfl⟩⟩ (Nat.le_refl _) i5) (fxS_mono (S := S) (S1 := S1) (hi := 0 + fxM os) os 0 a (fun i _ => by rw [p1.2.2.1 41 (by decide), p1.2.2.1 42 (by decide)]; exact ⟨rfl, rfl⟩) (Nat.le_refl _) hfx) (Nat.le_refl _) rfl hs
  refine ⟨S2, z, Ans.of (by rw [ml_123]; exact Nat.le_of_ble_eq_true rfl) (Bod.lv (by rfl) (cSe0_1 (d := d + 3) (fun lv1 r0 r1 => p4 none S2 (fun lv2 t0 t1 => q5 lv2 t0 t1) lv1 r0 r1))), (p1.mono (fun _ h => h) (fun _ h => h) (by decide) (fun _ h => h)).trans (q1.mono (fun _ h => h) (fun _ h => h) (by decide) (fun _ h => h)), fun i hi => by rw [q2 i hi, p1.2.2.1 24 (by decide)], fun x hx => by rw [q1.2.2.1 29 (by decide)]; exact p2 x hx, (q1.1 _ (fun h => by cases h)).trans ((p1.1 _ (fun h => by cases h)).trans z1), z2, q4, ?_⟩
  obtain ⟨s1, s2, s3, s4⟩ := p3
  exact ⟨(q1.1 _ (fun h => by cases h)).trans s1, fun e he => by rw [q1.2.2.1 37 (by decide), q1.2.2.1 38 (by decide)]; exact s2 e he, fun x h1 h2 => by rw [q1.2.2.1 34 (by decide), q1.2.2.1 29 (by decide)]; exact s3 x h1 h2, fun e he hk => by rw [q1.2.2.1 39 (by decide)]; exact s4 e he hk⟩
/-- the good end of a text: END is put, names get their places -/
theorem fin_G {a c k1 : Nat} {os : List Op} {sc : SCs} {at' : List Nat} {S : cS} (h : yOK A n S0 z0 fb a0 s ab B a c 0 (k1, os, sc, at') S) (hk : qK (by1 A) n k1 ≠ 0) (ha : a + wC os + 1 ≤ 40960) (hs : ∀ o, o ∈ os → fxO o = 1 → o.2.1.getD 1 0 < sc.1.length) : ∃ S1 S2 z, Ans (d + 13) 122 [.ref 43, .int (nI a)] S (some (.int 1)) S2 ∧ yOK A n S0 z0 fb a0 s ab B a c 0 (k1, os ++ [(0, [], 0, 0)], sc, at') S1 ∧ FrT [] [] [24, 29, 39] [] S1 S2 ∧ (∀ i, i < a → sA S2 24 i = sA S1 24 i) ∧ (∀ x, x < fb → sA S2 29 x = sA S1 29 x) ∧ sI S2 1607 = nI z ∧ z ≤ 4096 ∧ lsF sc (by1 A) n S2 z (c + cnN (os ++ [(0, [], 0, 0)])) fb a (os ++ [(0, [], 0, 0)]) ∧ sSE fb sc sc.2.length S2 := by
  obtain ⟨S1, j1, j2, _⟩ := yE_1 (d := d + 10) (t := 0) (p := []) h.1 (by omega) (by dsimp only; omega)
  have hOK := yOK_app h j2
  dsimp only at hOK
  obtain ⟨S2, z, i1, i2, i3, i4, i5, i6, i7, i8⟩ := settle_T (d := d) hOK (fun o ho h1 => by
    rcases List.mem_append.mp ho with h2 | h2
    · exact hs o h2 h1
    · rw [List.mem_singleton] at h2
      subst h2
      cases h1)
  have hkl := q_lt (by1 A) n k1
  exact ⟨S1, S2, z, Ans.of (by rw [ml_122]; exact Nat.le_of_ble_eq_true rfl) (Bod.lv (by rfl) (cFin_2 (d := d + 4) (st0 := a) (a := a + wC os) (f2310 := 0) (tk := qK (by1 A) n k1) (by omega) (by omega) j1 hOK.1.2.2.2.2.2.2.2.2.2.2.1 (by omega) rfl (cP_5 hOK.1.1) (by omega) hk i1)), hOK, i2, i3, i4, i5, i6, i7, i8⟩
end
