/-! CLASS in the class -/
section
variable {d : Nat}
theorem at_L {fi av : Nat} {nm : Int32} (hav2 : av ≤ 440) (hfi : fi < 2 ^ 20) : ∀ (m i t : Nat) (S : cS), m + i = av → sI S 2307 = nI t → sI S 4305 = nI av → t + m ≤ 40960 → ∃ S1, FrT [2307] [] [24] [] S S1 ∧ sI S1 2307 = nI (t + m) ∧ (∀ j, j < t → sA S1 24 j = sA S 24 j) ∧ (∀ j, j < m → sA S1 24 (t + j) = sA S 45 (i + j)) ∧ ∀ (v : Option Value) (Sf : cS), (∀ lv : sm_L, sm_get lv 0 = some (.ref 43) → sm_get lv 7 = some (.int (nI fi)) → sm_get lv 8 = some (.int (nI av)) → sm_get lv 4 = some (.int nm) → Bod (d + 11) 105 184 lv [] S1 v Sf) → ∀ lv : sm_L, sm_get lv 0 = some (.ref 43) → sm_get lv 7 = some (.int (nI fi)) → sm_get lv 8 = some (.int (nI i)) → sm_get lv 4 = some (.int nm) → Bod (d + 11) 105 184 lv [] S v Sf := by
  intro m
  induction m with
  | zero =>
    intro i t S hi ht hav hM
    obtain rfl : i = av := by omega
    exact ⟨S, FrT.refl _ _ _ _ _, ht, fun _ _ => rfl, fun j hj => by omega, fun v Sf hB lv q0 q7 q8 q4 => hB lv q0 q7 q8 q4⟩
  | succ m ih =>
    intro i t S hi ht hav hM
    have hF : FrT [2307] [] [24] [] S (wI 2307 (nI (t + 1)) (wA 24 t (sA S 45 i) S)) := FrT_wI (by decide) (FrT_wA (by decide) (FrT.refl _ _ _ _ _))
    obtain ⟨S1, i1, i2, i3, i4, i5⟩ := ih (i + 1) (t + 1) _ (by omega) (rIe _ _ _) ((hF.1 _ (by decide)).trans hav) (by omega)
    refine ⟨S1, hF.trans i1, by rw [i2]; exact congrArg nI (by omega), fun j hj => ?_, fun j hj => ?_, fun v Sf hB lv q0 q7 q8 q4 => ?_⟩
    · rw [i3 j (by omega)]
      show upd (sA S 24) t _ j = _
      rw [upd_at, if_neg (by omega)]
    · cases j with
      | zero =>
        rw [i3 (t + 0) (by omega)]
        show upd (sA S 24) t _ (t + 0) = _
        rw [upd_at, if_pos (Nat.add_zero t)]
        rfl
      | succ j =>
        have := i4 j (by omega)
        rw [show t + (j + 1) = t + 1 + j by omega, show i + (j + 1) = i + 1 + j by omega, this]
        rfl
    · exact cClrL_3 (d := d + 3) (av := av) (a := t) q8 q7 q4 q0 (by omega) hfi hav (by omega) (by omega) (by omega) (by omega) (put1_ev (d := d + 9) ht (by omega)) (fun lv1 r0 r7 r8 r4 => i5 v Sf hB lv1 r0 r7 r8 r4)
end
section
variable {A : Nat → Int32} {n z0 fb a0 F s ab d : Nat} {S0 : cS}
/-- the block of a class within: its names behind those of the class around -/
theorem yG_ab {a c f k : Nat} {sc : SCs} {at' : List Nat} {S : cS} (h : yG A n S0 z0 fb a0 s ab k sc at' a c f S) : yG A n S0 z0 fb a0 s (ab + min at'.length 40) k sc [] a c f S := by
  obtain ⟨g1, g2, g3, g4, g5, g6, g7, g8, g9, g10, g11⟩ := h
  exact ⟨g1, g2, g3, g4, g5, g6, g7, g8, g9, ⟨g10.1, g10.2.1, fun i hi => (by cases hi)⟩, g11⟩
theorem yOK_ab {a c f k0 k : Nat} {os : List Op} {sc0 sc : SCs} {at' at1 : List Nat} {B S : cS} (h0 : yG A n S0 z0 fb a0 s ab k0 sc0 at' a c f B) (h : yOK A n S0 z0 fb a0 s (ab + min at'.length 40) B a c f (k, os, sc, at1) S) : yOK A n S0 z0 fb a0 s ab B a c f (k, os, sc, at') (wI 4305 (nI (ab + min at'.length 40)) S) := by
  obtain ⟨⟨g1, g2, g3, g4, g5, g6, g7, g8, g9, g10, g11, g12, ⟨tr, lt, g13, g13b, g13c, g13d⟩, g14, g15, g16, g17, g18, g19⟩, h2, h3, h4, h5, h6⟩ := h
  have hat := h0.2.2.2.2.2.2.2.2.2.1
  have hF : FrT [4305] [] [] [] S (wI 4305 (nI (ab + min at'.length 40)) S) := FrT_wI (by decide) (FrT.refl _ _ _ _ _)
  have hnK2 : nK S (wI 4305 (nI (ab + min at'.length 40)) S) := cP_nK g1 (hF.1 _ (by decide)) (fun _ _ => rfl)
  have e1 : ∀ i, i ∈ [3102, 3103, 3104, 3105, 3106, 3107, 3108, 3109, 3113, 1607] → i ∉ [4305] := by decide
  refine ⟨⟨cP_S g1 (fun i hi => hF.1 i (e1 i hi)) (fun _ _ => rfl) (fun _ _ => rfl) (fun _ _ => rfl), ⟨(hF.1 _ (by decide)).trans g2.1, (hF.1 _ (by decide)).trans g2.2.1, (hF.1 _ (by decide)).trans g2.2.2.1, (hF.1 _ (by decide)).trans g2.2.2.2.1, g2.2.2.2.2⟩, (hF.1 _ (by decide)).trans g3, (hF.1 _ (by decide)).trans g4, (hF.1 _ (by decide)).trans g5, yS_S g6 hnK2 (fun _ _ => rfl), g7, g8, g9, ⟨rIe _ _ _, hat.2.1, fun i hi h40 => ?_⟩, (hF.1 _ (by decide)).trans g11, g12, ⟨tr, lt, (hF.1 _ (by decide)).trans g13, (hF.1 _ (by decide)).trans g13b, g13c, g13d⟩, g14, g15, g16, g17, g18, g19⟩, ?_, fxS_mono (S := S) (S1 := wI 4305 (nI (ab + min at'.length 40)) S) (hi := f + fxM os) _ _ _ (fun i _ => ⟨rfl, rfl⟩) (Nat.le_refl _) h3, ⟨h4.1.trans (hF.mono (by decide) (fun _ h => by cases h) (fun _ h => by cases h) (fun _ h => by cases h)), ⟨h4.2.1.1, fun i hi => h4.2.1.2.1 i (by omega), h4.2.1.2.2⟩, nK_trans h4.2.2 hnK2⟩, ?_, h6⟩
  · have e45 : sA S 45 (ab + i) = sA B 45 (ab + i) := h4.2.1.2.1 _ (by dsimp only at hi; omega)
    show nmR (by1 A) n _ _ (sA S 45 (ab + i))
    rw [e45]
    exact nmR_K (nK_trans h4.2.2 hnK2) (hat.2.2 i hi h40)
  · obtain ⟨z, c', i1, i2, i3, i4, i5⟩ := h2
    exact ⟨z, c', (hF.1 _ (by decide)).trans i1, i2, (hF.1 _ (by decide)).trans i3, i4, lsC_mono (S := S) os a (hi := a + wC os) ⟨Nat.le_refl _, Nat.le_refl _, fun i _ _ => rfl, fun i _ => ⟨rfl, rfl⟩, fun i _ => ⟨rfl, rfl⟩⟩ (Nat.le_refl _) i5⟩
  · have : sI (wI 4305 (nI (ab + min at'.length 40)) S) 4310 = sI S 4310 := rIn _ _ (by decide)
    rw [this]
    exact chL_S (S := S) _ _ (fun p _ => rfl) h5
/-- the step that makes a class -/
theorem yE_C {a c f k kn q b : Nat} {nm : Int32} {sc : SCs} {at' : List Nat} {S : cS} (h : yG A n S0 z0 fb a0 s ab k sc at' a c f S) (hq : nmR (by1 A) n S kn (nI q)) (ha : a + 4 + min at'.length 40 ≤ 40960) : ∃ S9 S10 S11, Ans (d + 11) 68 [.ref 23, .int (nI 23), .int (nI q), .int (nI b)] S (some (.int (nI a))) S9 ∧ sI S9 4305 = nI (ab + min at'.length 40) ∧ Ans (d + 11) 71 [.ref 23, .int (nI (ab + min at'.length 40 - ab))] S9 (some (.int (nI (a + 3)))) S10 ∧ yOK A n S0 z0 fb a0 s ab S a c f (k, [(23, kn :: b :: at'.take 40, 0, 0)], sc, at') S11 ∧ ∀ Sf, Ans (d + 11) 93 [.ref 43, .int nm] (wI 4305 (nI ab) S11) none Sf → ∀ lv : sm_L, sm_get lv 0 = some (.ref 43) → sm_get lv 7 = some (.int (nI ab)) → sm_get lv 8 = some (.int (nI ab)) → sm_get lv 4 = some (.int nm) → Bod (d + 11) 105 184 lv [] S10 none Sf := by
  obtain ⟨at1, at2, at3⟩ := h.2.2.2.2.2.2.2.2.2.1
  have hc := h.2.2.2.2.2.2.2.2.2.2.2.2.2.1
  have hf := h.2.2.2.2.2.2.2.2.2.2.2.2.2.2.2.1
  have F9 : FrT [2307] [] [24] [] S (wI 2307 (nI (a + 3)) (wA 24 (a + 2) (nI b) (wA 24 (a + 1) (nI q) (wA 24 a (nI 23) S)))) := FrT_wI (by decide) (FrT_wA (by decide) (FrT_wA (by decide) (FrT_wA (by decide) (FrT.refl _ _ _ _ _))))
  have p9 := put3_ev (d := d + 9) (x0 := nI 23) (x1 := nI q) (x2 := nI b) h.2.1.1 (by omega)
  generalize hS9 : wI 2307 (nI (a + 3)) (wA 24 (a + 2) (nI b) (wA 24 (a + 1) (nI q) (wA 24 a (nI 23) S))) = S9 at F9 p9
  have t9 : sI S9 2307 = nI (a + 3) := by rw [← hS9]; exact rIe _ _ _
  have w9 : ∀ j, sA S9 24 j = upd (upd (upd (sA S 24) a (nI 23)) (a + 1) (nI q)) (a + 2) (nI b) j := fun j => by rw [← hS9]; rfl
  clear hS9
  have F10 : FrT [2307] [] [24] [] S9 (wI 2307 (nI (a + 3 + 1)) (wA 24 (a + 3) (nI (ab + min at'.length 40 - ab)) S9)) := FrT_wI (by decide) (FrT_wA (by decide) (FrT.refl _ _ _ _ _))
  have p10 := put1_ev (d := d + 9) (x0 := nI (ab + min at'.length 40 - ab)) t9 (by omega)
  have av9 : sI S9 4305 = nI (ab + min at'.length 40) := (F9.1 _ (by decide)).trans at1
  obtain ⟨S11, i1, i2, i3, i4, i5⟩ := at_L (d := d) (fi := ab) (av := ab + min at'.length 40) (nm := nm) at2 (by omega) (min at'.length 40) ab (a + 3 + 1) _ (by omega) (rIe _ _ _) ((F10.1 _ (by decide)).trans av9) (by omega)
  have FF : FrT [2307] [] [24] [] S S11 := (F9.trans F10).trans i1
  have wl : ∀ j, j < a + 4 → sA S11 24 j = upd (upd (upd (upd (sA S 24) a (nI 23)) (a + 1) (nI q)) (a + 2) (nI b)) (a + 3) (nI (min at'.length 40)) j := fun j hj => by
    rw [i3 j (by omega)]
    show upd (sA S9 24) (a + 3) (nI (ab + min at'.length 40 - ab)) j = _
    rw [upd_at, upd_at, w9 j, show ab + min at'.length 40 - ab = min at'.length 40 by omega]
  have wh : ∀ j, j < min at'.length 40 → sA S11 24 (a + 4 + j) = sA S 45 (ab + j) := fun j hj => by
    have := i4 j hj
    rw [show a + 4 + j = a + 3 + 1 + j by omega, this]
    have e1 : sA (wI 2307 (nI (a + 3 + 1)) (wA 24 (a + 3) (nI (ab + min at'.length 40 - ab)) S9)) 45 = sA S9 45 := F10.2.2.1 45 (by decide)
    rw [e1, F9.2.2.1 45 (by decide)]
  have el : (at'.take 40).length = min at'.length 40 := by rw [List.length_take, Nat.min_comm]
  have e1 : lC (23, kn :: b :: at'.take 40, 0, 0) = 4 + min at'.length 40 := by
    show 2 + ((at'.take 40).length + 1 + 1) = _
    rw [el]
    omega
  have hnK : nK S S11 := cP_nK h.1 (FF.1 _ (by decide)) (fun x _ => FF.2.2.2.1 x (fun h => by cases h))
  have hfx : fxO (23, kn :: b :: at'.take 40, 0, 0) = 0 := if_neg (fun hc => absurd hc.2.1 (by dsimp only; omega))
  refine ⟨S9, _, S11, p9, av9, p10, yOK_e (o := (23, kn :: b :: at'.take 40, 0, 0)) h (by dsimp only; omega) (FF.1 _ (by decide)) (FF.mono (by decide) (fun _ h => h) (by decide) (fun _ h => by cases h)) ⟨fun i hi => ?_, fun i _ => by rw [FF.2.2.2.1 25 (fun h => by cases h), FF.2.2.2.1 26 (fun h => by cases h)]; exact ⟨rfl, rfl⟩, fun i _ => by rw [FF.2.2.1 41 (by decide), FF.2.2.1 42 (by decide)]; exact ⟨rfl, rfl⟩⟩ (by rw [e1, i2]; exact congrArg nI (by omega)) ((FF.1 _ (by decide)).trans h.2.1.2.1) (by rw [hfx]; exact (FF.1 _ (by decide)).trans h.2.1.2.2.1) hc (by rw [e1]; omega) (by rw [hfx]; exact hf) (fun h => by rw [hfx] at h; cases h) (fun z hz1 hz2 => ⟨fun _ => ?_, fun h => ?_, fun h => ?_, fun h => ?_, fun h => ?_, fun h => ?_, fun h => ?_, fun _ => ⟨?_, ?_, ?_, ?_, fun i hi => ?_⟩⟩), fun Sf hbt lv q0 q7 q8 q4 => i5 none Sf (fun lv1 r0 r7 r8 r4 => cClrL_1 (d := d + 3) (av := ab + min at'.length 40) r8 r7 r4 r0 (by omega) (by omega) ((i1.1 _ (by decide)).trans ((F10.1 _ (by decide)).trans av9)) (by omega) (Nat.le_refl _) hbt) lv q0 q7 q8 q4⟩
  · rw [wl i (by omega), upd_at, upd_at, upd_at, upd_at, if_neg (by omega), if_neg (by omega), if_neg (by omega), if_neg (by omega)]
  · rw [wl a (by omega), upd_at, upd_at, upd_at, upd_at, if_neg (by omega), if_neg (by omega), if_neg (by omega), if_pos rfl]
    rfl
  · exfalso; dsimp only at h; omega
  · exfalso; dsimp only at h; omega
  · exfalso; dsimp only at h; omega
  · exfalso; dsimp only at h; omega
  · exfalso; dsimp only at h; omega
  · exfalso; dsimp only at h; omega
  · rw [wl (a + 2) (by omega), upd_at, upd_at, upd_at, upd_at, if_neg (by omega), if_pos rfl]
    rfl
  · rw [wl (a + 3) (by omega), upd_at, if_pos rfl]
    show _ = nI ((at'.take 40).length + 1 + 1 - 2)
    rw [el]
    exact congrArg nI (by omega)
  · show 2 ≤ (at'.take 40).length + 1 + 1
    omega
  · obtain ⟨q', z', u1, u2, u3, u4, u5, u6⟩ := nmR_K hnK hq
    have ez : z' = z := by
      have hz3 := FF.1 1607 (by decide)
      exact nI_inj (by omega) (by omega) ((u4.symm.trans hz3).trans hz1)
    subst ez
    refine ⟨q', u3, u6, ?_⟩
    rw [wl (a + 1) (by omega), upd_at, upd_at, upd_at, if_neg (by omega), if_neg (by omega), if_pos rfl]
    exact u1
  · replace hi : i + 2 < (at'.take 40).length + 1 + 1 := hi
    rw [el] at hi
    obtain ⟨q', z', u1, u2, u3, u4, u5, u6⟩ := nmR_K hnK (at3 i (by omega) (by omega))
    have ez : z' = z := by
      have hz3 := FF.1 1607 (by decide)
      exact nI_inj (by omega) (by omega) ((u4.symm.trans hz3).trans hz1)
    subst ez
    refine ⟨q', u3, ?_, (wh i (by omega)).trans u1⟩
    have eg : (kn :: b :: at'.take 40).getD (2 + i) 0 = at'.getD i 0 := by
      rw [show 2 + i = i + 1 + 1 by omega]
      show (at'.take 40).getD i 0 = _
      rw [List.getD_eq_getElem?_getD, List.getD_eq_getElem?_getD, List.getElem?_take_of_lt (by omega)]
    rw [eg]
    exact u6
end
section
variable {A : Nat → Int32} {n z0 fb l a c f ab lo : Nat} {S0 B : cS} {H : List Nat} {qa qc qf qe qs qn d : Nat}
theorem yB_passF {S : cS} {t : Nat} (h : yB A n S0 z0 fb l a c f ab lo H qa qc qf qe qs qn B S) (ht : 1 ≤ t) (ht2 : t < 2 ^ 20) : ∃ S1, Ans (d + 2) 75 [.ref 31, .int (nI t)] S none S1 ∧ yB A n S0 z0 fb l a c f ab lo H qa qc qf qe qs qn B S1 ∧ sI S1 4305 = sI S 4305 := by
  obtain ⟨S1, h1, h2, h3, h4⟩ := pass_B (d := d) h.1 ht (by omega)
  exact ⟨S1, h1, yB_lx h h2 h3 h4, h3.1 _ (by decide)⟩
theorem yB_ab {ab1 : Nat} {S : cS} (h : yB A n S0 z0 fb l a c f ab1 lo H qa qc qf qe qs qn B S) (hab : ab ≤ ab1) (hab4 : ab1 ≤ ab + 40) (h5 : sI S 4305 = nI ab1) (h44 : ab1 ≤ 440) : yB A n S0 z0 fb l a c f ab lo H qa qc qf qe qs qn B S := by
  obtain ⟨k1, ⟨a', c', f', s, e, sn, fn, av, tv, lv, l', b1, b2, b3, b4, b5, b6, b7, b8, b9, bfl, blo, g1, g2, g3, g4, g5, g6, g7, g8, g9, g10⟩, k3, k4, k5, k6⟩ := h
  have : av = ab1 := nI_inj (by omega) (by omega) (b5.symm.trans h5)
  exact ⟨k1, ⟨a', c', f', s, e, sn, fn, av, tv, lv, l', b1, b2, b3, b4, b5, b6, b7, b8, b9, bfl, by omega, g1, g2, g3, g4, g5, g6, by omega, g8, g9, g10⟩, ⟨k3.1, ⟨k3.2.1.1, fun i hi => k3.2.1.2.1 i (by omega), k3.2.1.2.2⟩, k3.2.2⟩, k4, k5, k6⟩
/-- the step that makes a class, behind a fault -/
theorem clTl_B {S : cS} {nm x1 : Int32} (h : yB A n S0 z0 fb l a c f ab lo H qa qc qf qe qs qn B S) (hq : qa + 44 ≤ 40960) : ∃ t S9 av1 t2 S10 S11, Ans (d + 11) 68 [.ref 23, .int (nI 23), .int nm, .int x1] S (some (.int (nI t))) S9 ∧ t < 2 ^ 20 ∧ sI S9 4305 = nI av1 ∧ av1 < 2 ^ 20 ∧ ab ≤ av1 ∧ Ans (d + 11) 71 [.ref 23, .int (nI (av1 - ab))] S9 (some (.int (nI t2))) S10 ∧ t2 < 2 ^ 20 ∧ (∀ Sf, Ans (d + 11) 93 [.ref 43, .int nm] (wI 4305 (nI ab) S11) none Sf → ∀ lv : sm_L, sm_get lv 0 = some (.ref 43) → sm_get lv 7 = some (.int (nI ab)) → sm_get lv 8 = some (.int (nI ab)) → sm_get lv 4 = some (.int nm) → Bod (d + 11) 105 184 lv [] S10 none Sf) ∧ yB A n S0 z0 fb l a c f ab lo H (qa + 44) qc qf qe qs qn B (wI 4305 (nI ab) S11) := by
  obtain ⟨S9, t, p1, p2, p3⟩ := yB_put3 (d := d + 9) (x0 := nI 23) (x1 := nm) (x2 := x1) h (by omega)
  obtain ⟨t9, c', f', s, e, sn, fn, av, tv, lv, l', h1, h2, h3, h4, h5, h6, h7', h8, h9, hfl, hlo, g1, g2, g3, g4, g5, g6, g7, g8, g9, g10⟩ := yB_top p3
  have F10 : FrT [2307] [] [24] [] S9 (wI 2307 (nI (t9 + 1)) (wA 24 t9 (nI (av - ab)) S9)) := FrT_wI (by decide) (FrT_wA (by decide) (FrT.refl _ _ _ _ _))
  have p10 := put1_ev (d := d + 9) (x0 := nI (av - ab)) h1.1 (by omega)
  obtain ⟨S11, i1, i2, i3, i4, i5⟩ := at_L (d := d) (fi := ab) (av := av) (nm := nm) g7.1 (by omega) (av - ab) ab (t9 + 1) _ (by omega) (rIe _ _ _) ((F10.1 _ (by decide)).trans h5) (by omega)
  have b11 := yB_emitW (w := 1 + (av - ab)) (H1 := H) p3 h1.1 (by omega) ((F10.trans i1).mono (by decide) (fun _ h => h) (fun _ h => h) (fun _ h => h)) (by rw [i2]; exact congrArg nI (by omega)) (by omega) (fun i hi => by
    rw [i3 i (by omega)]
    show upd (sA S9 24) t9 _ i = _
    rw [upd_at, if_neg (by omega)]) (fun x hx => Or.inl hx)
  have b12 := yB_le (pa := qa + 44) b11 (by omega) (Nat.le_refl _) (Nat.le_refl _) (Nat.le_refl _) (Nat.le_refl _) (Nat.le_refl _)
  have hF : FrT [4305] [] [] [] S11 (wI 4305 (nI ab) S11) := FrT_wI (by decide) (FrT.refl _ _ _ _ _)
  obtain ⟨tb, cb', fb', sb', eb, snb, fnb, avb, tvb, lvb, lb', r1, r2, r3, r4, r5, r6, r7, r8, r9, rfl', rlo, u1, u2, u3, u4, u5, u6, u7, u8, u9, u10⟩ := yB_top b12
  obtain ⟨ps, t', k1, k2, k3, k4, k5⟩ := id b12.2.2.2.1
  refine ⟨t, S9, av, t9, _, S11, p1, p2, h5, by omega, by omega, p10, by omega, fun Sf hbt lv q0 q7 q8 q4 => i5 none Sf (fun lv1 e0 e7 e8 e4 => cClrL_1 (d := d + 3) (av := av) e8 e7 e4 e0 (by omega) (by omega) ((i1.1 _ (by decide)).trans ((F10.1 _ (by decide)).trans h5)) (by omega) (Nat.le_refl _) hbt) lv q0 q7 q8 q4, yB_w b12 (hF.mono (by decide) (fun _ h => h) (fun _ h => by cases h) (fun _ h => by cases h)) ⟨tb, cb', fb', sb', eb, snb, fnb, ab, tvb, lvb, lb', ⟨(hF.1 _ (by decide)).trans r1.1, (hF.1 _ (by decide)).trans r1.2.1, (hF.1 _ (by decide)).trans r1.2.2.1, (hF.1 _ (by decide)).trans r1.2.2.2.1, r1.2.2.2.2⟩, (hF.1 _ (by decide)).trans r2, (hF.1 _ (by decide)).trans r3, (hF.1 _ (by decide)).trans r4, rIe _ _ _, (hF.1 _ (by decide)).trans r6, (hF.1 _ (by decide)).trans r7, (hF.1 _ (by decide)).trans r8, by rw [hF.1 3108 (by decide)]; exact r9, (hF.1 _ (by decide)).trans rfl', by omega, u1, u2, u3, u4, u5, u6, by omega, u8, u9, u10⟩ (kQ_eq (fun _ _ => rfl) (fun _ _ => rfl)) ⟨ps, t', (hF.1 _ (by decide)).trans k1, k2, ?_, k4, k5⟩ (yV_F (LI := [4305]) (LJ := []) (LA := []) (LL := []) b12.2.2.2.2.2 hF (by decide) (by decide))⟩
  rw [hF.1 4310 (by decide)]
  exact chL_S (S := S11) ps _ (fun p _ => rfl) k3
end
