/-! STATEMENTS OF THE REFERENCE: def, whole -/
section
variable {β : Nat → Nat} {n : Nat} {E : Nat → Nat → Bool} {V : Nat → Int32} {T : Nat → Nat × Nat} {P : Nat → Int32 → Int32 × Int32} {A : Prop} {own0 : Nat → Nat × Nat} {m u k1 : Nat} {S0 Sb S S1 S2 : cS} {H B0 W d c w t f b a F s : Nat} {l : List Int32} {X : Nat → Nat}
/-- behind the block: none, return; the jump over it; the function is made -/
theorem df_end {r tr L j nl no F1 l f0 : Nat} {os : List Op} {x5 : Int} (hX : zX β n V own0 m k1 S0) (h : zO β n V P A own0 m u S0 H B0 X l S c w t f b j ((4, [], 0, 0) :: os) f0 S1) (hn : n60 os) (hc : c + wR (qK β n) os + 6 ≤ H) (hH : H ≤ 40000) (htr : sI S1 6122 = nI (F1 + 1)) (h75 : sA S1 75 (F1 + 1) = nI nl) (h83 : sA S1 83 (F1 + 1) = nI no) : ∃ S2 S3 S4 S5, Ans (d + 12) 322 [.ref 61, .int (nI 1)] (wI 6127 (nI tr) (wI 6126 (nI L) S1)) none S2 ∧ Ans (d + 12) 322 [.ref 61, .int (nI 29)] S2 none S3 ∧ Ans (d + 12) 326 [.ref 61, .int (nI (c + 1))] S3 none S4 ∧ sI S4 6122 = nI (F1 + 1) ∧ sA S4 75 (F1 + 1) = nI nl ∧ sA (wI 6123 (nI nl) S4) 83 (F1 + 1) = nI no ∧ Ans (d + 12) 302 [.ref 61, .int (nI 37), .int (nI r)] (wI 6122 (nI (F1 + 1 - 1)) (wI 6137 (nI no) (wI 6123 (nI nl) S4))) none S5 ∧ zO β n V P A own0 m u S0 H B0 X l S c w t f b j ((4, [], x5, ((3 + wR (qK β n) os : Nat) : Int)) :: (os ++ [(63, [], 0, 0), (8, [], 0, 0), (22, [r], 0, 0)])) f0 S5 ∧ (∀ i, i < 10800 → i ≠ 6115 → i ≠ 6116 → i ≠ 6131 → i ≠ 6132 → i ≠ 6122 → i ≠ 6123 → i ≠ 6126 → i ≠ 6127 → i ≠ 6137 → sI S5 i = sI S1 i) ∧ sI S5 6122 = nI F1 ∧ sI S5 6123 = nI nl ∧ sI S5 6137 = nI no ∧ sI S5 6126 = nI L ∧ sI S5 6127 = nI tr ∧ (∀ a, 67 ≤ a → a < 108 → a ≠ 79 → a ≠ 80 → sA S5 a = sA S1 a) ∧ dNm S5 m = dNm S1 m ∧ dAt S5 m = dAt S1 m ∧ dPa S5 m = dPa S1 m ∧ dLo S5 m = dLo S1 m := by
  have z1 : zO β n V P A own0 m u S0 H B0 X l S c w t f b j ((4, [], 0, 0) :: os) f0 (wI 6127 (nI tr) (wI 6126 (nI L) S1)) := zO_wI (zO_wI h (by decide)) (by decide)
  have w0 : wR (qK β n) ((4, [], 0, 0) :: os) = 2 + wR (qK β n) os := rfl
  obtain ⟨S2, hA2, z2, kx2⟩ := zO_1 (d := d + 8) (o := (63, [], 0, 0)) (x := nI 1) hX z1 (by rw [w0]; omega) hH rfl (by show (63 : Nat) ≠ 16; decide) (by show (63 : Nat) ≠ 60; decide) (by show (63 : Nat) ≠ 23; decide) rfl
  have w2 : wR (qK β n) (((4, [], 0, 0) :: os) ++ [(63, [], 0, 0)]) = 2 + wR (qK β n) os + 1 := by rw [wR_app, w0]; rfl
  obtain ⟨S3, hA3, z3, kx3⟩ := zO_1 (d := d + 8) (o := (8, [], 0, 0)) (x := nI 29) hX z2 (by rw [w2]; omega) hH rfl (by show (8 : Nat) ≠ 16; decide) (by show (8 : Nat) ≠ 60; decide) (by show (8 : Nat) ≠ 23; decide) rfl
  have e3 : (((4, [], 0, 0) :: os) ++ [(63, [], 0, 0)]) ++ [(8, [], 0, 0)] = ([] : List Op) ++ ((4, [], 0, 0) : Op) :: (os ++ [(63, [], 0, 0), (8, [], 0, 0)]) := by simp only [List.append_assoc, List.cons_append, List.nil_append]
  rw [e3] at z3
  obtain ⟨S4, hA4, z4, kx4, i4⟩ := zO_fill (d := d + 11) (x := x5) hX z3 hH (by show (4 : Nat) ∈ [4, 5, 10, 12]; decide)
  have w4 : wR (qK β n) (os ++ [(63, [], 0, 0), (8, [], 0, 0)]) = wR (qK β n) os + 2 := by rw [wR_app]; rfl
  rw [w4, show ((1 + (wR (qK β n) os + 2) : Nat) : Int) = ((3 + wR (qK β n) os : Nat) : Int) by omega] at z4
  have kx24 := kX_trans kx2 (kX_trans kx3 kx4)
  have ki : ∀ i, i < 10800 → i ≠ 6115 → i ≠ 6116 → i ≠ 6131 → i ≠ 6132 → i ≠ 6126 → i ≠ 6127 → sI S4 i = sI S1 i := fun i i0 i1 i2 i3 i4 i5 i6 => (kx24.1 i i0 i1 i2 i3 i4).trans (by rw [rIn _ _ i6, rIn _ _ i5])
  have ka : ∀ a, 67 ≤ a → a < 108 → a ≠ 79 → a ≠ 80 → sA S4 a = sA S1 a := fun a a1 a2 a3 a4 => (kx24.2.1 a a1 a2 a3 a4).1
  have z5 : zO β n V P A own0 m u S0 H B0 X l S c w t f b j (([] : List Op) ++ (4, [], x5, ((3 + wR (qK β n) os : Nat) : Int)) :: (os ++ [(63, [], 0, 0), (8, [], 0, 0)])) f0 (wI 6122 (nI (F1 + 1 - 1)) (wI 6137 (nI no) (wI 6123 (nI nl) S4))) := zO_wI (zO_wI (zO_wI z4 (by decide)) (by decide)) (by decide)
  have w5 : wR (qK β n) (([] : List Op) ++ (4, [], x5, ((3 + wR (qK β n) os : Nat) : Int)) :: (os ++ [(63, [], 0, 0), (8, [], 0, 0)])) = 2 + (wR (qK β n) os + 2) := by
    show lR (qK β n) (4, [], x5, _) + wR (qK β n) (os ++ [(63, [], 0, 0), (8, [], 0, 0)]) = _
    rw [w4]
    rfl
  obtain ⟨S5, hA5, z6, kx5⟩ := zO_2 (d := d + 8) (o := (22, [r], 0, 0)) (x := nI 37) (y := nI r) hX z5 (by rw [w5]; omega) hH rfl (by show (22 : Nat) ≠ 16; decide) (by show (22 : Nat) ≠ 60; decide) (by show (22 : Nat) ≠ 23; decide) rfl
  have e6 : (([] : List Op) ++ (4, [], x5, ((3 + wR (qK β n) os : Nat) : Int)) :: (os ++ [(63, [], 0, 0), (8, [], 0, 0)])) ++ [(22, [r], 0, 0)] = (4, [], x5, ((3 + wR (qK β n) os : Nat) : Int)) :: (os ++ [(63, [], 0, 0), (8, [], 0, 0), (22, [r], 0, 0)]) := by simp only [List.append_assoc, List.cons_append, List.nil_append]
  rw [e6] at z6
  have i26 : sI S4 6126 = nI L := (kx24.1 _ (by decide) (by decide) (by decide) (by decide) (by decide)).trans (by rw [rIn _ _ (by decide)]; exact rIe _ _ _)
  have i27 : sI S4 6127 = nI tr := (kx24.1 _ (by decide) (by decide) (by decide) (by decide) (by decide)).trans (rIe _ _ _)
  have j5 : ∀ i, i < 10800 → i ≠ 6115 → i ≠ 6116 → i ≠ 6131 → i ≠ 6132 → sI S5 i = sI (wI 6122 (nI (F1 + 1 - 1)) (wI 6137 (nI no) (wI 6123 (nI nl) S4))) i := kx5.1
  have kd := kx24.2.2
  have kd5 := kx5.2.2
  refine ⟨S2, S3, S4, S5, hA2, hA3, hA4, (ki _ (by decide) (by decide) (by decide) (by decide) (by decide) (by decide) (by decide)).trans htr, by rw [ka 75 (by decide) (by decide) (by decide) (by decide)]; exact h75, by show sA S4 83 (F1 + 1) = _; rw [ka 83 (by decide) (by decide) (by decide) (by decide)]; exact h83, hA5, z6, fun i i0 i1 i2 i3 i4' i5 i6 i7 i8 i9 => ?_, ?_, ?_, ?_, ?_, ?_, fun a a1 a2 a3 a4 => ?_, ?_, ?_, ?_, ?_⟩
  · rw [j5 i i0 i1 i2 i3 i4', rIn _ _ i5, rIn _ _ i9, rIn _ _ i6, ki i i0 i1 i2 i3 i4' i7 i8]
  · rw [j5 _ (by decide) (by decide) (by decide) (by decide) (by decide)]; exact rIe _ _ _
  · rw [j5 _ (by decide) (by decide) (by decide) (by decide) (by decide), rIn _ _ (by decide), rIn _ _ (by decide)]; exact rIe _ _ _
  · rw [j5 _ (by decide) (by decide) (by decide) (by decide) (by decide), rIn _ _ (by decide)]; exact rIe _ _ _
  · rw [j5 _ (by decide) (by decide) (by decide) (by decide) (by decide), rIn _ _ (by decide), rIn _ _ (by decide), rIn _ _ (by decide)]; exact i26
  · rw [j5 _ (by decide) (by decide) (by decide) (by decide) (by decide), rIn _ _ (by decide), rIn _ _ (by decide), rIn _ _ (by decide)]; exact i27
  · exact (kx5.2.1 a a1 a2 a3 a4).1.trans (ka a a1 a2 a3 a4)
  · exact kd5.1.trans kd.1
  · exact kd5.2.1.trans kd.2.1
  · exact kd5.2.2.1.trans kd.2.2.1
  · exact kd5.2.2.2.1.trans kd.2.2.2.1
end
