
/-! THE CLASS'S STACK: values are handed over; the top takes the place of another -/
section
variable {d t t1 v o x : Nat} {S X : cS} {g : Nat → Nat} {hi lo : Int64}
/-- the loop of handOver -/
theorem hand_L (hv : v < 2 ^ 20) : ∀ (r i : Nat) (t : Nat) (S : cS), i + r = v → r ≤ t → mHS 0 g t S → (∀ j, t - r ≤ j → j < t → ob (sL S 47 j) (sL S 48 j) = 0 ∨ 0 < heldBy S (ob (sL S 47 j) (sL S 48 j))) → ∃ S', (∀ lv1 : sm_L, sm_get lv1 0 = some (.ref 46) → sm_get lv1 1 = some (.int (nI v)) → sm_get lv1 2 = some (.int (nI i)) → Bod (d + 8) 261 2 lv1 [] S none S') ∧ mHS 0 g (t - r) S' ∧ KX [] S S' ∧ sL S' = sL S ∧ ∀ k, heldBy S' k = heldBy S k := by
  intro r
  induction r with
  | zero =>
    intro i t S hi _ h _
    exact ⟨S, fun lv1 q0 q1 q2 => mHoL_1 q0 q1 q2 hv (by omega) (by omega), h, KX_refl S, rfl, fun _ => rfl⟩
  | succ r ih =>
    intro i t S hi ht h hh
    obtain ⟨t1, rfl⟩ : ∃ t1, t = t1 + 1 := ⟨t - 1, by omega⟩
    obtain ⟨o, o1, o2, o3⟩ := mHS_o h (i := t1) (by omega)
    have ho := hh t1 (by omega) (by omega)
    rw [ob_n o2 o1] at ho
    obtain ⟨S1, a1, a2, a3, a4, a5⟩ := hand_turn (d := d + 6) h o2 o1 ho
    obtain ⟨S2, b1, b2, b3, b4, b5⟩ := ih (i + 1) t1 S1 (by omega) (by omega) a2 (fun j j1 j2 => by rw [a4, a5]; exact hh j (by omega) (by omega))
    refine ⟨S2, fun lv1 q0 q1 q2 => mHoL_4 (t := t1 + 1) q0 q1 q2 hv (by omega) (by omega) h.2.2.1 (by have := h.2.2.2.1; omega) (by omega) (by have := h.2.2.2.1; omega) (by omega) (S1 := wI 4603 (nI t1) S) (rb := nI o) (objectOf_n (d := d + 7) o2) a1 b1, by rw [show t1 + 1 - (r + 1) = t1 - r by omega]; exact b2, ?_, b4.trans a4, fun k => by rw [b5, a5]⟩
    have := KX_trans a3 b3 (mHS_cl a2) (mHS_ok h)
    exact this
theorem mhand_T (h : mHS 0 g t S) (hv : v ≤ t) (hh : ∀ j, t - v ≤ j → j < t → ob (sL S 47 j) (sL S 48 j) = 0 ∨ 0 < heldBy S (ob (sL S 47 j) (sL S 48 j))) : ∃ S', Ans (d + 9) 261 [.ref 46, .int (nI v)] S none S' ∧ mHS 0 g (t - v) S' ∧ KX [] S S' ∧ sL S' = sL S ∧ ∀ k, heldBy S' k = heldBy S k := by
  have ht := h.2.2.2.1
  obtain ⟨S', a1, a2⟩ := hand_L (d := d) (v := v) (by omega) v 0 t S (by omega) hv h hh
  exact ⟨S', Ans.of (by rw [ml_261]; exact Nat.le_of_ble_eq_true rfl) (Bod.lv (by rfl) (mHo_1 (by omega) (fun lv1 q0 q1 q2 => a1 lv1 q0 q1 q2))), a2⟩
/-- one hold by work goes -/
theorem rel_turn (h : mHS 0 g t S) (hX : FrL [4603] [] [47, 48] S X) (hT1 : sI X 4603 = nI t1) (ht1 : t1 ≤ t) (ho1 : o ≤ 1500) (hol : o = 0 ∨ lv S o) (hst : ∀ k, 1 ≤ k → stE t1 X k + dl o k = stE t S k) (hw : ∀ i, i < t1 → ∃ j, j < t ∧ sL X 47 i = sL S 47 j ∧ sL X 48 i = sL S 48 j) : ∃ S' K, Ans (d + 3) 142 [.ref 2, .ref 6, .int (nI o)] X none S' ∧ mHS 0 g t1 S' ∧ KX K S S' ∧ sL S' = sL X ∧ (∀ k, k ∈ K → g k = 0) := by
  obtain ⟨hP, hD, hT, hM, hL, hN, hG, hB, hg⟩ := h
  have hF0 : FrL [4603] [4, 5, 6, 14] [47, 48] S X := hX.mono (by decide) (by decide) (by decide)
  have hP1 : Hp no_e (nmE S) (fun k => (stE t1 X k + g k) + dl o k) S := Hp_e6 hP (fun k k1 _ => by
    have := hst k k1
    show _ = stE t S k + g k
    omega)
  obtain ⟨hP2, hh⟩ := Hp_reL (f4 := no_e) (f5 := nmE S) (f6 := fun k => (stE t1 X k + g k) + dl o k) hP1 hF0 (by decide) (by decide) (fun q q1 q2 => by
    obtain ⟨p4, p5, p6, p7, p8, p9⟩ := hP1.2.2.2.2.2 q q1 q2
    exact ⟨by rw [hX.A (by decide)]; exact p4, by rw [hX.A (by decide)]; exact p5, by rw [hX.A (by decide)]; exact p6, p7, p8, p9⟩)
  have e3 : sA X 3 = sA S 3 := hX.A (by decide)
  obtain ⟨S1, K, hA, c1, c2, c3, c4⟩ := release6 (d := d) (k := o) (S := X) (e5 := nmE S) (e6 := fun k => stE t1 X k + g k) ho1 (hol.imp id (fun h => by rw [e3]; exact h.2.2)) hP2 (fun q q1 q2 q3 qn => by
    have := hD q ⟨q1, q2, by rw [← e3]; exact q3⟩ (by omega)
    have h2 := hst q q1
    rw [dl_n qn] at h2
    rw [hh q]
    omega)
  have hok : ∀ k, 1 ≤ k → k ≤ 1500 → h_ok S k := hP.1
  have hK := KX_Kill hF0 hok c3
  have eL : sL S1 = sL X := c3.1.2.1
  have eS : stE t1 S1 = stE t1 X := stE_L (fun i _ => by rw [eL]; exact ⟨rfl, rfl⟩)
  obtain ⟨eN0, eB0⟩ := nmE_F hX (by decide)
  have eN : nmE S1 = nmE S := (nmE_L eL).trans eN0
  have eB : nmB S1 = nmB S := (nmB_L eL).trans eB0
  have hlv := lv_KX hK
  refine ⟨S1, K, hA, ⟨by rw [eN, eS]; exact c1, fun k hk _ => ?_, ?_, by omega, ?_, ?_, fun k hk => ?_, ?_, hg⟩, hK, eL, fun k hk => ?_⟩
  · have := c2 k hk.1 hk.2.1 hk.2.2
    rw [eN, eS]
    unfold no_e at this
    omega
  · rw [c3.1.I (by decide)]
    exact hT1
  · intro i hi
    obtain ⟨j, j1, j2, j3⟩ := hw i hi
    obtain ⟨q, q1, q2, q3⟩ := hL j j1
    refine ⟨q, q1, by rw [eL, j2, j3]; exact q2, q3.imp id (fun h => (hlv q).mpr ⟨h, fun hm => ?_⟩)⟩
    have := (c4 q hm).2
    have h2 := stE_pos (S := X) (o := q) hi (by rw [j2, j3]; exact ob_n q2 q1)
    omega
  · intro i hi
    obtain ⟨q, q1, q2, q3⟩ := hN i hi
    refine ⟨q, q1, by rw [eL, hX.2.1 21 (by decide), hX.2.1 22 (by decide)]; exact q2, q3.imp id (fun h => (hlv q).mpr ⟨h, fun hm => ?_⟩)⟩
    have := (c4 q hm).1
    have h2 := sumN_pos (f := fun i => if ob (sL S 21 i) (sL S 22 i) = q then 1 else 0) (k := i) (n := 4096) hi
    rw [if_pos (ob_n q2 q1)] at h2
    have h3 : 0 < nmE S q := h2
    omega
  · refine (hlv k).mpr ⟨hG k hk, fun hm => ?_⟩
    have := (c4 k hm).2
    omega
  · rw [eB, c3.1.I (by decide)]
    exact (hX.I (i := 1608) (by decide)).trans hB
  · have := (c4 k hk).2
    omega
/-- replace: the topmost value takes the place of the one v below it -/
theorem mreplace_T (h : mHS 0 g t S) (hv : v + 1 ≤ t) (hv0 : v ≠ 0) : ∃ S' K, Ans (d + 9) 188 [.ref 46, .int (nI v)] S none S' ∧ mHS 0 g (t - 1) S' ∧ KX K S S' ∧ (∀ i, i < t - 1 → i ≠ t - 1 - v → sL S' 47 i = sL S 47 i ∧ sL S' 48 i = sL S 48 i) ∧ sL S' 47 (t - 1 - v) = sL S 47 (t - 1) ∧ sL S' 48 (t - 1 - v) = sL S 48 (t - 1) ∧ (∀ k, k ∈ K → g k = 0) := by
  have ht := h.2.2.1
  have ht2 := h.2.2.2.1
  obtain ⟨o, o1, o2, o3⟩ := mHS_o h (i := t - 1 - v) (by omega)
  have l47 : ∀ i, sL (wL 48 (t - 1 - v) (sL (wL 47 (t - 1 - v) (sL (wI 4603 (nI (t - 1)) S) 47 (t - 1)) (wI 4603 (nI (t - 1)) S)) 48 (t - 1)) (wL 47 (t - 1 - v) (sL (wI 4603 (nI (t - 1)) S) 47 (t - 1)) (wI 4603 (nI (t - 1)) S))) 47 i = if i = t - 1 - v then sL S 47 (t - 1) else sL S 47 i := fun i => by
    rw [rLn _ _ _ (by decide)]
    rfl
  have l48 : ∀ i, sL (wL 48 (t - 1 - v) (sL (wL 47 (t - 1 - v) (sL (wI 4603 (nI (t - 1)) S) 47 (t - 1)) (wI 4603 (nI (t - 1)) S)) 48 (t - 1)) (wL 47 (t - 1 - v) (sL (wI 4603 (nI (t - 1)) S) 47 (t - 1)) (wI 4603 (nI (t - 1)) S))) 48 i = if i = t - 1 - v then sL S 48 (t - 1) else sL S 48 i := fun i => by
    rw [rLe]
    show (if i = t - 1 - v then _ else _) = _
    rw [rLn _ _ _ (by decide)]
    rfl
  have hX : FrL [4603] [] [47, 48] S (wL 48 (t - 1 - v) (sL (wL 47 (t - 1 - v) (sL (wI 4603 (nI (t - 1)) S) 47 (t - 1)) (wI 4603 (nI (t - 1)) S)) 48 (t - 1)) (wL 47 (t - 1 - v) (sL (wI 4603 (nI (t - 1)) S) 47 (t - 1)) (wI 4603 (nI (t - 1)) S))) := FrL_wL (by decide) (FrL_wL (by decide) (FrL_wI (by decide) (FrL.refl _ _ _ _)))
  have hT1 : sI (wL 48 (t - 1 - v) (sL (wL 47 (t - 1 - v) (sL (wI 4603 (nI (t - 1)) S) 47 (t - 1)) (wI 4603 (nI (t - 1)) S)) 48 (t - 1)) (wL 47 (t - 1 - v) (sL (wI 4603 (nI (t - 1)) S) 47 (t - 1)) (wI 4603 (nI (t - 1)) S))) 4603 = nI (t - 1) := by
    show sI (wI 4603 (nI (t - 1)) S) 4603 = nI (t - 1)
    exact rIe _ _ _
  have hmRp := fun (S3 : cS) (c3 : Ans (d + 8) 142 [.ref 2, .ref 6, .int (nI o)] (wL 48 (t - 1 - v) (sL (wL 47 (t - 1 - v) (sL (wI 4603 (nI (t - 1)) S) 47 (t - 1)) (wI 4603 (nI (t - 1)) S)) 48 (t - 1)) (wL 47 (t - 1 - v) (sL (wI 4603 (nI (t - 1)) S) 47 (t - 1)) (wI 4603 (nI (t - 1)) S))) none S3) => mRp_1 (nv := v) (a := o) (S1 := S) (S2 := S) (by omega) (has_T (d := d + 7) ht (by omega) (by omega)) hv0 ht (by omega) (by omega) (by omega) (by omega) (objectOf_n (d := d + 7) o2) ht (by omega) (by omega) c3
  generalize wL 48 (t - 1 - v) (sL (wL 47 (t - 1 - v) (sL (wI 4603 (nI (t - 1)) S) 47 (t - 1)) (wI 4603 (nI (t - 1)) S)) 48 (t - 1)) (wL 47 (t - 1 - v) (sL (wI 4603 (nI (t - 1)) S) 47 (t - 1)) (wI 4603 (nI (t - 1)) S)) = X at l47 l48 hX hT1 hmRp
  have hst : ∀ k, 1 ≤ k → stE (t - 1) X k + dl o k = stE t S k := fun k hk => by
    obtain ⟨o', p1, p2, p3⟩ := mHS_o h (i := t - 1) (by omega)
    have e1 : stE t S k = stE (t - 1) S k + dl o' k := by
      have := stE_s (t := t - 1) (ob_n p2 p1) hk
      rw [show t - 1 + 1 = t by omega] at this
      exact this
    have e2 := sumN_upd (f := fun i => if ob (sL S 47 i) (sL S 48 i) = k then 1 else 0) (g := fun i => if ob (sL X 47 i) (sL X 48 i) = k then 1 else 0) (k := t - 1 - v) (n := t - 1) (fun i hi => by
      show (if ob (sL X 47 i) (sL X 48 i) = k then 1 else 0) = _
      rw [l47, l48, if_neg hi, if_neg hi]) (by omega)
    have e3 : (if ob (sL S 47 (t - 1 - v)) (sL S 48 (t - 1 - v)) = k then 1 else 0) = dl o k := by rw [ob_n o2 o1]; exact if_dl hk
    have e4 : (if ob (sL X 47 (t - 1 - v)) (sL X 48 (t - 1 - v)) = k then 1 else 0) = dl o' k := by rw [l47, l48, if_pos rfl, if_pos rfl, ob_n p2 p1]; exact if_dl hk
    have e5 : stE (t - 1) X k + dl o k = stE (t - 1) S k + dl o' k := by
      rw [← e3, ← e4]
      exact e2
    rw [e5, e1]
  obtain ⟨S', K, a1, a2, a3, a4, a5⟩ := rel_turn (d := d + 5) h hX hT1 (by omega) o1 o3 hst (fun i hi => by
    by_cases e : i = t - 1 - v
    · exact ⟨t - 1, by omega, by rw [l47, if_pos e], by rw [l48, if_pos e]⟩
    · exact ⟨i, by omega, by rw [l47, if_neg e], by rw [l48, if_neg e]⟩)
  refine ⟨S', K, Ans.of (by rw [ml_188]; exact Nat.le_of_ble_eq_true rfl) (Bod.lv (by rfl) (hmRp S' a1)), a2, a3, fun i hi hne => by rw [a4, l47, l48, if_neg hne, if_neg hne]; exact ⟨rfl, rfl⟩, by rw [a4, l47, if_pos rfl], by rw [a4, l48, if_pos rfl], a5⟩
end
