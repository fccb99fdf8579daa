/-! DEEDS ON BOTH SIDES: the topmost two once more (the reference's first word of op 40) -/
section
variable {P : Nat → Prop} {T : cS} {gT : Nat} {Q : Nat → Prop} {β : Nat → Nat} {F : Nat → Nat → Nat → Prop} {loc par : Nat → Nat → Nat} {ty : Nat → Nat × Nat} {G : Nat → Nat → Nat → Nat × Nat × LL → Prop} {D : List Nat} {z nn g0 g1 g3 g4 g5 gn d t k to e xx : Nat} {tq : Nat → Nat × Nat} {r : List Lv} {x : Lv} {S Sr S' W : cS}
/-- a value copied in the reference's stack -/
theorem cpy_T (hk : k < 20480) (ht : to < 20480) (he : sA Sr 91 k = nI e) (me : e < 2 ^ 20) (hne : k ≠ to) : ∃ W, Ans (d + 9) 391 [.ref 61, .int (nI k), .int (nI to)] Sr none W ∧ (∀ tp, tp ≤ to → sFr tp Sr W) ∧ sI W 6151 = sI Sr 6151 ∧ (∀ i, i ≠ to → sA W 91 i = sA Sr 91 i ∧ sL W 92 i = sL Sr 92 i ∧ sL W 93 i = sL Sr 93 i) ∧ sA W 91 to = sA Sr 91 k ∧ sL W 92 to = sL Sr 92 k ∧ sL W 93 to = sL Sr 93 k := by
  have a1 : sL (wA 91 to (nI e) Sr) 92 k = sL Sr 92 k := rfl
  have a2 : sL (wL 92 to (sL (wA 91 to (nI e) Sr) 92 k) (wA 91 to (nI e) Sr)) 93 k = sL Sr 93 k := by
    rw [rL, if_neg (by decide)]
    rfl
  have hA := rCy_1 (d := d) (S := Sr) (k := k) (to := to) (e91 := e) (by omega) (by omega) hk he me ht
  rw [a2, a1] at hA
  refine ⟨_, Ans.of (by rw [ml_391]; exact Nat.le_of_ble_eq_true rfl) (Bod.lv (by rfl) hA), fun tp htp => sFr_push (sFr.refl tp Sr) htp, rfl, fun i hi => ⟨?_, ?_, ?_⟩, ?_, ?_, ?_⟩
  · show (if 91 = 91 then va_up (sA Sr 91) to (nI e) else sA Sr 91) i = _
    rw [if_pos rfl]
    exact if_neg hi
  · rw [rL, if_neg (by decide), rL, if_pos rfl]
    exact if_neg hi
  · rw [rL, if_pos rfl, rL, if_neg (by decide)]
    exact if_neg hi
  · rw [spush_at.1, he]
  · exact spush_at.2.1
  · exact spush_at.2.2
theorem pek_1 (h : CI F loc par ty G tq (x :: r) S) (hX : XR P T gT Q β F D z nn g0 g1 g3 g4 g5 gn tq (x :: r) S Sr) (h2 : 2 ≤ vH x) (hx : xx < 2 ^ 20) : ∃ W, Ans (d + 10) 400 [.ref 61, .int (nI 28), .int (nI xx)] Sr (some (.int 1)) W ∧ sFr (topC (x :: r) + offC (x :: r)) Sr W ∧ sI W 6151 = nI (topC (x :: r) + offC (x :: r) + 2) ∧ (sA W 91 (topC (x :: r) + offC (x :: r)) = sA Sr 91 (topC (x :: r) + offC (x :: r) - 2) ∧ sL W 92 (topC (x :: r) + offC (x :: r)) = sL Sr 92 (topC (x :: r) + offC (x :: r) - 2) ∧ sL W 93 (topC (x :: r) + offC (x :: r)) = sL Sr 93 (topC (x :: r) + offC (x :: r) - 2)) ∧ sA W 91 (topC (x :: r) + offC (x :: r) + 1) = sA Sr 91 (topC (x :: r) + offC (x :: r) - 1) ∧ sL W 92 (topC (x :: r) + offC (x :: r) + 1) = sL Sr 92 (topC (x :: r) + offC (x :: r) - 1) ∧ sL W 93 (topC (x :: r) + offC (x :: r) + 1) = sL Sr 93 (topC (x :: r) + offC (x :: r) - 1) := by
  obtain ⟨l1, l2, l3, l4, l5⟩ := CI_len h
  have hT := CI_T h
  obtain ⟨y0, y04, ya0, _⟩ := XR_k h hX (i := 0) (by omega)
  obtain ⟨y1, y14, ya1, _⟩ := XR_k h hX (i := 1) (by omega)
  have h51 := XR_51 hX
  rw [show topC (x :: r) + offC (x :: r) - 1 - 0 = topC (x :: r) + offC (x :: r) - 1 by omega] at ya0
  rw [show topC (x :: r) + offC (x :: r) - 1 - 1 = topC (x :: r) + offC (x :: r) - 2 by omega] at ya1
  have t2 : 2 ≤ topC (x :: r) + offC (x :: r) := by omega
  generalize topC (x :: r) + offC (x :: r) = t at *
  obtain ⟨W1, A1, f1, i1, o1, p1, p2, p3⟩ := cpy_T (d := d) (Sr := Sr) (k := t - 2) (to := t) (by omega) (by omega) ya1 (by omega) (by omega)
  obtain ⟨q1, q2, q3⟩ := o1 (t - 1) (by omega)
  obtain ⟨W2, A2, f2, i2, o2, s1, s2, s3⟩ := cpy_T (d := d) (Sr := W1) (k := t - 1) (to := t + 1) (by omega) (by omega) (q1.trans ya0) (by omega) (by omega)
  obtain ⟨u1, u2, u3⟩ := o2 t (by omega)
  have e1 : sI W1 6151 = nI t := i1.trans h51
  have e2 : sI W2 6151 = nI t := i2.trans e1
  have hst : ∀ i, i ≠ 6151 → sI (wI 6151 (nI (t + 2)) W2) i = sI W2 i := fun i hi => if_neg hi
  refine ⟨wI 6151 (nI (t + 2)) W2, Ans.of (by rw [ml_400]; exact Nat.le_of_ble_eq_true rfl) (Bod.lv (by rfl) (rPl_30 (d := d + 1) (by omega) hx rfl h51 (by omega) t2 A1 e1 (by omega) (by omega) A2 e2 (by omega))), sFr_I ((f1 t (Nat.le_refl _)).trans (f2 t (by omega))), rIe _ _ _, ⟨u1.trans p1, u2.trans p2, u3.trans p3⟩, s1.trans q1, s2.trans q2, s3.trans q3⟩
end
