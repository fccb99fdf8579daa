/-! A STEP ON A NAME, whole; what stays in an expression -/
section
variable {own0 : Nat → Nat × Nat} {d m u k w t : Nat} {S0 S : cS}
theorem rE_fix (h : rE own0 m u S0 k w t S) : (∀ i, i < 10800 → i ≠ 6115 → i ≠ 6116 → i ≠ 6131 → i ≠ 6132 → sI S i = sI S0 i) ∧ ∀ a, 67 ≤ a → a < 108 → a ≠ 79 → a ≠ 80 → sA S a = sA S0 a ∧ sL S a = sL S0 a := by
  obtain ⟨own, N, Nw, Nt, hs, hw, ht, hO, hc, hF, ho, hmu, hlen⟩ := h
  have hm := hs.1
  refine ⟨fun i h0 h1 h2 h3 h4 => hF.2.2.1 i (fun e => ?_), fun a h1 h2 h3 h4 => ?_⟩
  · unfold rIl at e
    simp only [List.mem_cons, List.not_mem_nil, or_false] at e
    omega
  · have e : (own0 a).1 = 0 := by rw [← ho a (by omega)]; exact hO.2.1 a h1 h2 h3 h4
    exact ⟨hF.2.2.2.2.2.1 a (by omega) (by rw [e]; decide), hF.2.2.2.2.2.2 a (by omega) (by rw [e]; decide)⟩
theorem scR_S {F oa o : Nat} {a en : Nat → Nat} (h : rE own0 m u S0 k w t S) (hsc : scR S0 F a en oa o) : scR S F a en oa o ∧ ∀ x, nplc S F a en oa o x = nplc S0 F a en oa o x := by
  obtain ⟨h1, h2⟩ := rE_fix h
  obtain ⟨s1, s2, s3, s4⟩ := hsc
  have e74 := (h2 74 (by omega) (by omega) (by omega) (by omega)).1
  have e75 := (h2 75 (by omega) (by omega) (by omega) (by omega)).1
  have e82 := (h2 82 (by omega) (by omega) (by omega) (by omega)).1
  have e83 := (h2 83 (by omega) (by omega) (by omega) (by omega)).1
  have i2 := h1 6122 (by omega) (by omega) (by omega) (by omega) (by omega)
  have i3 := h1 6123 (by omega) (by omega) (by omega) (by omega) (by omega)
  have i7 := h1 6137 (by omega) (by omega) (by omega) (by omega) (by omega)
  refine ⟨?_, fun x => ?_⟩
  · unfold scR
    rw [e75, e83, i2, i3, i7]
    exact ⟨s1, s2, s3, s4⟩
  · unfold nplc
    rw [e74, e82]
/-- name: the step's sign, the name, where it stands -/
theorem rE_name {F r oa o : Nat} {a en : Nat → Nat} (h : rE own0 m u S0 k w t S) (hk : k < 2 ^ 16) (h86 : ∀ p t, p < 1500 → sQ S0 86 p = some t → t ≠ m) (hr : r < 2 ^ 20) (hsc : scR S0 F a en oa o) (x : Int32) : ∃ S1, Ans (d + 5) 317 [.ref 61, .int x, .int (nI r)] S none S1 ∧ rE own0 m u S0 (k + 4) w t S1 ∧ kR m k w t S S1 ∧ cw S1 m k = x ∧ cw S1 m (k + 1) = nI r ∧ cw S1 m (k + 2) = (nplc S0 F a en oa o (nI r)).1 ∧ cw S1 m (k + 3) = (nplc S0 F a en oa o (nI r)).2 ∧ (∀ i, i ≠ 100 * m + 1 → sI S1 i = sI S i) := by
  obtain ⟨S1, hA, h1, h2, h3, h4, h5⟩ := rE_2 (d := d) h (by omega) h86 x (nI r)
  obtain ⟨c1, c2⟩ := scR_S h1 hsc
  obtain ⟨s1, s2, s3, s4⟩ := id c1
  have keep : ∀ S2 : cS, kR m (k + 2) w t S1 S2 → cw S2 m k = x ∧ cw S2 m (k + 1) = nI r := fun S2 g => ⟨(g.1 k (by omega)).trans h3, (g.1 (k + 1) (by omega)).trans h4⟩
  by_cases hU : 1 ≤ F ∧ (lf (sA S1 82) (nI r) (o - oa) oa).isSome = true
  · obtain ⟨S2, hB, g1, g2, g3, g4, g5⟩ := na_end (d := d) (lv := [(0, .ref 61)]) h1 (by omega) h86 rfl
    obtain ⟨o1, o2, o3, o4⟩ := s4 hU.1
    have hU1 : Ans (d + 4) 318 [.ref 61, .int (nI r)] S1 (some (.int (nI 1))) S1 := by
      have h6 := isOutside_T (d := d + 3) hr o1 o2 o3 s1 (by omega) (by omega) o4
      rw [hU.2] at h6
      exact h6
    have e : nplc S0 F a en oa o (nI r) = (Int32.ofInt (-1), nI 0) := by
      rw [← c2]
      exact if_pos hU
    have k2 := keep S2 g2
    exact ⟨S2, na_go hr (by omega) hA s1 (fun lv1 a0 a2 a3 => na_1 a0 a2 a3 (by omega) (by omega) hU1 (fun lv2 b0 _ _ => hB lv2 b0)), g1, kR_trans h2 g2 (by omega) (Nat.le_refl _) (Nat.le_refl _), k2.1, k2.2, by rw [e]; exact g3, by rw [e]; exact g4, fun i hi => (g5 i hi).trans (h5 i hi)⟩
  · obtain ⟨S2, hB, g1, g2, g3, g4, g5⟩ := na_loop (d := d) h1 (by omega) h86 hr c1 (fun hF => by
      cases hx : (lf (sA S1 82) (nI r) (o - oa) oa).isSome with
      | false => rfl
      | true => exact absurd ⟨hF, hx⟩ hU) F (Nat.le_refl _)
    have e : nplc S0 F a en oa o (nI r) = nres (sA S1 74) a en F (nI r) F := by
      rw [← c2]
      exact if_neg hU
    have k2 := keep S2 g2
    exact ⟨S2, na_go hr (by omega) hA s1 (fun lv1 a0 a2 a3 => hB lv1 a0 a2 a3), g1, kR_trans h2 g2 (by omega) (Nat.le_refl _) (Nat.le_refl _), k2.1, k2.2, by rw [e]; exact g3, by rw [e]; exact g4, fun i hi => (g5 i hi).trans (h5 i hi)⟩
end
