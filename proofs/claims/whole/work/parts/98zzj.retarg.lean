/-! TARGETS in the class's statements: the last step does something else; a name bound behind a fault -/
theorem bks_lt : ∀ (os : List Op) (a p : Nat), p ∈ bks a os → p + 2 ≤ a + wC os := by
  intro os
  induction os with
  | nil => intro a p h; cases h
  | cons o r ih =>
    intro a p h
    have e : bks a (o :: r) = if o.1 = 60 then a :: bks (a + lC o) r else bks (a + lC o) r := rfl
    have e2 : wC (o :: r) = lC o + wC r := rfl
    rw [e] at h
    split at h
    · rename_i h60
      rcases List.mem_cons.mp h with rfl | h
      · have := lC_60 h60; omega
      · have := ih _ _ h; omega
    · have := ih _ _ h; omega
section
variable {A : Nat → Int32} {n z0 fb a0 s ab d : Nat} {S0 B : cS}
theorem yOK_tl {a c f k t' : Nat} {os : List Op} {o : Op} {sc : SCs} {at' : List Nat} {S : cS} (h : yOK A n S0 z0 fb a0 s ab B a c f (k, os ++ [o], sc, at') S) (hcl : (o.1 = 18 ∧ 18 ≤ t' ∧ t' ≤ 20) ∨ (o.1 = 39 ∧ (t' = 40 ∨ t' = 41 ∨ t' = 43)) ∨ (o.1 = 44 ∧ (t' = 45 ∨ t' = 46 ∨ t' = 48))) : yOK A n S0 z0 fb a0 s ab B a c f (k, os ++ [(t', o.2)], sc, at') (wA 24 (a + wC os) (nI t') S) := by
  obtain ⟨h1, h2, h3, h4, h5, h6⟩ := h
  have n2 : ¬ (t' = 16 ∨ t' = 63) := by omega
  have n3 : (18 ≤ t' ∧ t' ≤ 21) → (18 ≤ o.1 ∧ o.1 ≤ 21) ∧ t' ≠ 21 := by omega
  have n4 : ¬ ((4 ≤ t' ∧ t' ≤ 7) ∨ t' = 10 ∨ t' = 12 ∨ t' = 62) := by omega
  have n5 : 44 ≤ t' ∧ t' ≤ 48 → 44 ≤ o.1 ∧ o.1 ≤ 48 := by omega
  have n6 : ¬ (t' = 1 ∨ t' = 2 ∨ t' = 3 ∨ t' = 13 ∨ t' = 15 ∨ t' = 24 ∨ t' = 49 ∨ t' = 50 ∨ t' = 51) := by omega
  have n7 : t' ≠ 22 := by omega
  have n8 : t' ≠ 23 := by omega
  have n9 : t' ≤ 59 := by omega
  have el : lC (t', o.2) = lC o := by
    rcases hcl with ⟨e, e2⟩ | ⟨e, e2⟩ | ⟨e, e2⟩
    · rw [lC_n (o := o) (by omega), lC_n (o := (t', o.2)) (by dsimp only; omega)]
    · unfold lC
      dsimp only
      rw [if_neg (by omega), if_neg (by omega), if_neg (by omega), if_neg (by omega), if_pos (by omega), if_neg (by omega), if_neg (by omega), if_neg (by omega), if_neg (by omega), if_pos (by omega)]
    · rw [lC_2 (o := o) (by omega), lC_2 (o := (t', o.2)) (by dsimp only; omega)]
  have ec : cnO (t', o.2) = cnO o := by
    unfold cnO
    dsimp only
    rw [if_neg (by omega), if_neg (by omega)]
  have ef : fxO (t', o.2) = fxO o := by
    unfold fxO
    dsimp only
    rcases hcl with ⟨e, e2⟩ | ⟨e, e2⟩ | ⟨e, e2⟩
    · by_cases hg : o.2.1.getD 1 0 = 0
      · rw [if_neg (fun hc => hc.2.2 hg), if_neg (fun hc => hc.2.2 hg)]
      · rw [if_pos ⟨by omega, by omega, hg⟩, if_pos ⟨by omega, by omega, hg⟩]
    · rw [if_neg (by omega), if_neg (by omega)]
    · rw [if_neg (by omega), if_neg (by omega)]
  have ew : wC (os ++ [(t', o.2)]) = wC (os ++ [o]) := by rw [wC_app, wC_app]; show _ + (lC _ + 0) = _ + (lC _ + 0); rw [el]
  have en : cnN (os ++ [(t', o.2)]) = cnN (os ++ [o]) := by rw [cnN_app, cnN_app]; show _ + (cnO _ + 0) = _ + (cnO _ + 0); rw [ec]
  have em : fxM (os ++ [(t', o.2)]) = fxM (os ++ [o]) := by rw [fxM_app, fxM_app]; show _ + (fxO _ + 0) = _ + (fxO _ + 0); rw [ef]
  have b1 : bks a (os ++ [o]) = bks a os := by
    rw [bks_app, bks_no (os := [o]) _ (fun x hx => by
      rcases List.mem_cons.mp hx with rfl | hx
      · omega
      · cases hx), List.append_nil]
  have b2 : bks a (os ++ [(t', o.2)]) = bks a os := by
    rw [bks_app, bks_no (os := [(t', o.2)]) _ (fun x hx => by
      rcases List.mem_cons.mp hx with rfl | hx
      · dsimp only; omega
      · cases hx), List.append_nil]
  have hu : ∀ i, i ≠ a + wC os → sA (wA 24 (a + wC os) (nI t') S) 24 i = sA S 24 i := fun i hi => by
    show upd (sA S 24) (a + wC os) _ i = _
    rw [upd_at, if_neg hi]
  have hp : sA (wA 24 (a + wC os) (nI t') S) 24 (a + wC os) = nI t' := by
    show upd (sA S 24) (a + wC os) _ (a + wC os) = _
    rw [upd_at, if_pos rfl]
  unfold yOK
  dsimp only at h1 h2 h3 h5 h6 ⊢
  rw [b1] at h5 h6
  rw [ew, en, em, b2]
  refine ⟨yG_W h1 (FrT_wA (by decide) (FrT.refl _ _ _ _ _)), ?_, ?_, ⟨FrT_wA (by decide) h4.1, ?_, nK_S h4.2.2 rfl rfl (fun _ _ => rfl) (fun _ _ => rfl)⟩, chL_S _ _ (fun p hq => hu _ (by have := bks_lt os a p (List.mem_reverse.mp hq); omega)) h5, h6⟩
  · obtain ⟨z, c', i1, i2, i3, i4, i5⟩ := h2
    obtain ⟨j1, j2, j3⟩ := (lsC_app os a).mp i5
    refine ⟨z, c', i1, i2, i3, i4, (lsC_app os a).mpr ⟨lsC_mono (S := S) os a (hi := a + wC os) ⟨Nat.le_refl _, Nat.le_refl _, fun i _ h7 => hu i (by omega), fun _ _ => ⟨rfl, rfl⟩, fun _ _ => ⟨rfl, rfl⟩⟩ (Nat.le_refl _) j1, ?_, trivial⟩⟩
    obtain ⟨u1, u2, u3, u4, u5, u6, u7, u8⟩ := j2
    refine ⟨fun _ => ?_, fun h => ?_, fun h => ?_, fun h => ?_, fun h => ?_, fun h => ?_, fun h => ?_, fun h => ?_⟩
    · rw [hp]
      show nI t' = nI (tgC t')
      rw [tgC_id n9]
    · exact absurd h n2
    · obtain ⟨v1, q, v2, v3, v4, v5⟩ := u3 (n3 h).1
      exact ⟨(hu _ (by omega)).trans v1, q, v2, v3, (hu _ (by omega)).trans v4, fun h21 => absurd h21 (n3 h).2⟩
    · exact absurd h n4
    · obtain ⟨q, v2, v3, v4⟩ := u5 (n5 h)
      exact ⟨q, v2, v3, (hu _ (by omega)).trans v4⟩
    · exact absurd h n6
    · exact absurd h n7
    · exact absurd h n8
  · obtain ⟨j1, j2, j3⟩ := (fxS_app os f a).mp h3
    refine (fxS_app os f a).mpr ⟨fxS_mono (S := S) (S1 := wA 24 (a + wC os) (nI t') S) (hi := f + fxM os) _ _ _ (fun i _ => ⟨rfl, rfl⟩) (Nat.le_refl _) j1, fun hx => ?_, trivial⟩
    rw [ef] at hx
    exact j2 hx
  · obtain ⟨⟨q1, q2, q3⟩, q4, q5⟩ := h4.2.1
    exact ⟨⟨fun i hi => (hu i (by omega)).trans (q1 i hi), q2, q3⟩, q4, q5⟩
/-- retarget: what was read becomes what is put -/
theorem rtg_T {a c f k0 x y z : Nat} {r : Nat × Nat × List Op} {os : List Op} {sc : SCs} {at' : List Nat} {S : cS} (h : yOK A n S0 z0 fb a0 s ab B a c f (r.1, os ++ r.2.2, sc, at') S) (hr : exs (qK (by1 A) n) s k0 = some r) (hg : sI S 4403 = nI r.2.1) (htp : r.2.1 ≠ 0 → sI S 4404 = nI (a + wC os + wC r.2.2 - tl1 r.2.1)) (hr0 : r.2.1 ≠ 0) (hxyz : (x = 20 ∧ y = 43 ∧ z = 48) ∨ (x = 19 ∧ y = 41 ∧ z = 46) ∨ (x = 18 ∧ y = 40 ∧ z = 45)) (hM : sc.2.length + 1 ≤ 1600) : ∃ S1, Ans (d + 11) 110 [.ref 43, .int (nI x), .int (nI y), .int (nI z)] S none S1 ∧ yOK A n S0 z0 fb a0 s ab B a c f (r.1, os ++ rtl x y z r.2.2, scT (Eb (by1 A) n) s r.2.1 (r.1 - 1) sc, at') S1 := by
  obtain ⟨os', o, ho, hcs⟩ := ex_tg hr hr0
  have htop := h.1.2.1.1
  have htopM : a + wC (os ++ r.2.2) ≤ 40960 := h.1.2.2.2.2.2.2.2.2.2.2.2.2.2.2.1
  have ht0 := htp hr0
  rw [ho, wC_app, show wC [o] = lC o from Nat.add_zero _] at ht0
  dsimp only at htop
  rw [ho, wC_app, wC_app, show wC [o] = lC o from Nat.add_zero _] at htop htopM
  rcases hcs with ⟨g1, g2, g3, g4, g5⟩ | ⟨g1, g3⟩ | ⟨g1, g3, g5⟩
  · subst g2
    have el : lC o = 3 := by rw [g3]; rfl
    have e0 : wC ([] : List Op) = 0 := rfl
    rw [g1] at hg ht0 ⊢
    have e3 : tl1 1 = 3 := rfl
    have ht1 : sI S 4404 = nI (a + wC os) := by rw [ht0]; congr 1; omega
    rw [ho, List.nil_append] at h
    have h' := yOK_tl (t' := x) h (Or.inl ⟨by rw [g3], by omega, by omega⟩)
    obtain ⟨zz, c', i1, i2, i3, i4, i5⟩ := h.2.1
    obtain ⟨j1, j2, j3⟩ := (lsC_app os a).mp i5
    obtain ⟨v1, q, v2, v3, v4, v5⟩ := j2.2.2.1 (by rw [g3]; dsimp only; omega)
    rw [g3] at v3
    have hq : nmR (by1 A) n (wA 24 (a + wC os) (nI x) S) (r.1 - 1) (nI q) := ⟨q, zz, rfl, Nat.zero_le _, v2, i1, i2, by rw [g4]; exact v3⟩
    have hw : sA (wA 24 (a + wC os) (nI x) S) 24 (a + wC os + 2) = nI q := by
      show upd (sA S 24) (a + wC os) _ (a + wC os + 2) = _
      rw [upd_at, if_neg (by omega)]
      exact v4
    have hat := at_T (d := d + 8) (S := wA 24 (a + wC os) (nI x) S) (q := a + wC os + 2) htop (by omega) (by omega)
    rw [hw] at hat
    have hpa := patch_T (d := d + 9) (q := a + wC os) (x := nI x) htop (by omega) (by omega)
    obtain ⟨S3, p1, p2⟩ := bound_T (d := d) h'.1 hq (by omega) hM
    have hfin := yOK_app h' p2
    dsimp only at hfin
    rw [List.append_nil] at hfin
    refine ⟨S3, Ans.of (by rw [ml_110]; exact Nat.le_of_ble_eq_true rfl) (Bod.lv (by rfl) (cRtg1_1 (d := d + 2) (tp := a + wC os) (a := q) (by omega) (by omega) (by omega) ht1 (by omega) hg hpa (by omega) (Ans.of (by rw [ml_111]; exact Nat.le_of_ble_eq_true rfl) (Bod.lv (by rfl) (cNmt_2 (d := d + 1) (tg := 1) (tp := a + wC os) ((rAI _ _ _ _ _).trans ht1) (by omega) ((rAI _ _ _ _ _).trans hg) (by omega) rfl (by omega) hat))) p1)), ?_⟩
    rw [ho, rtl_app, List.nil_append, g3]
    rw [g3] at hfin
    exact hfin
  · have el : lC o = 1 := by rw [g3]; rfl
    rw [g1] at hg ht0 ⊢
    have e3 : tl1 2 = 1 := rfl
    have ht1 : sI S 4404 = nI (a + wC (os ++ os')) := by rw [ht0, wC_app]; congr 1; omega
    rw [ho, ← List.append_assoc] at h
    have h' := yOK_tl (t' := y) h (Or.inr (Or.inl ⟨by rw [g3], by omega⟩))
    have hpa := patch_T (d := d + 9) (q := a + wC (os ++ os')) (x := nI y) htop (by rw [wC_app]; omega) (by omega)
    refine ⟨_, Ans.of (by rw [ml_110]; exact Nat.le_of_ble_eq_true rfl) (Bod.lv (by rfl) (cRtg2_1 (d := d + 2) (tp := a + wC (os ++ os')) (by omega) (by omega) (by omega) ht1 (by rw [wC_app]; omega) hg hpa)), ?_⟩
    rw [ho, rtl_app, g3, ← List.append_assoc]
    rw [g3] at h'
    exact h'
  · have el : lC o = 2 := by rw [g3]; rfl
    rw [g1] at hg ht0 ⊢
    have e3 : tl1 3 = 2 := rfl
    have ht1 : sI S 4404 = nI (a + wC (os ++ os')) := by rw [ht0, wC_app]; congr 1; omega
    rw [ho, ← List.append_assoc] at h
    have h' := yOK_tl (t' := z) h (Or.inr (Or.inr ⟨by rw [g3], by omega⟩))
    have hpa := patch_T (d := d + 9) (q := a + wC (os ++ os')) (x := nI z) htop (by rw [wC_app]; omega) (by omega)
    refine ⟨_, Ans.of (by rw [ml_110]; exact Nat.le_of_ble_eq_true rfl) (Bod.lv (by rfl) (cRtg3_1 (d := d + 2) (tp := a + wC (os ++ os')) (by omega) (by omega) (by omega) ht1 (by rw [wC_app]; omega) hg hpa)), ?_⟩
    rw [ho, rtl_app, g3, ← List.append_assoc]
    rw [g3] at h'
    exact h'
end
