/-! A JUMP of the reference's expression, told behind what it leads over -/
section
variable {β : Nat → Nat} {n : Nat} {V : Nat → Int32} {P : Int32 → Int32 × Int32} {S S1 : cS} {m w t w1 t1 hi : Nat}
theorem oR_mono2 {a lo : Nat} {o : Op} (hk : kR m 0 w t S S1) (hc : ∀ i, lo ≤ i → i < hi → cw S1 m i = cw S m i) (hlo : lo ≤ a) (hw : w ≤ w1) (ht : t ≤ t1) (hh : a + lR (qK β n) o ≤ hi) (h : oR β n V P S m w t a o) : oR β n V P S1 m w1 t1 a o := by
  obtain ⟨_, c2, c3⟩ := hk
  obtain ⟨h1, h2, h3, h4, h5, h6, h7, h8, h9, h10, h11, h12⟩ := h
  refine ⟨fun e => ?_, fun e => ?_, fun e => ?_, fun e => ?_, fun e => ?_, fun e => ?_, fun e => ?_, fun e => ?_, fun e => ?_, fun e f => ?_, fun e f g => ?_, fun e f => ?_⟩
  · have := lR_2 (K := qK β n) (o := o) (by omega)
    rw [hc a (by omega) (by omega), hc (a + 1) (by omega) (by omega)]; exact h1 e
  · have := lR_1 (K := qK β n) (o := o) (by omega)
    rw [hc a (by omega) (by omega)]; exact h2 e
  · have := lR_1 (K := qK β n) (o := o) (by omega)
    rw [hc a (by omega) (by omega)]; exact h3 e
  · have := lR_1 (K := qK β n) (o := o) (by omega)
    rw [hc a (by omega) (by omega)]; exact h4 e
  · have := lR_2 (K := qK β n) (o := o) (by omega)
    rw [hc a (by omega) (by omega), hc (a + 1) (by omega) (by omega)]; exact h5 e
  · have := lR_2 (K := qK β n) (o := o) (by omega)
    rw [hc a (by omega) (by omega), hc (a + 1) (by omega) (by omega)]; exact h6 e
  · have := lR_2 (K := qK β n) (o := o) (by omega)
    rw [hc a (by omega) (by omega), hc (a + 1) (by omega) (by omega)]; exact h7 e
  · have := lR_2 (K := qK β n) (o := o) (by omega)
    rw [hc a (by omega) (by omega), hc (a + 1) (by omega) (by omega)]; exact h8 e
  · have := lR_4 (K := qK β n) (o := o) e
    rw [hc a (by omega) (by omega), hc (a + 1) (by omega) (by omega), hc (a + 2) (by omega) (by omega), hc (a + 3) (by omega) (by omega)]; exact h9 e
  · have e1 := lR_16 (K := qK β n) (o := o) e
    rw [if_pos f] at e1
    rw [hc a (by omega) (by omega)]; exact h10 e f
  · have e1 := lR_16 (K := qK β n) (o := o) e
    rw [if_neg f] at e1
    obtain ⟨i1, i, i2, i3, i4⟩ := h11 e f g
    exact ⟨by rw [hc a (by omega) (by omega)]; exact i1, i, by omega, by rw [hc (a + 1) (by omega) (by omega)]; exact i3, by rw [c2 i i2]; exact i4⟩
  · have e1 := lR_16 (K := qK β n) (o := o) e
    rw [if_neg (by omega)] at e1
    obtain ⟨i1, i, i2, i3, i4, i5⟩ := h12 e f
    exact ⟨by rw [hc a (by omega) (by omega)]; exact i1, i, by omega, by rw [hc (a + 1) (by omega) (by omega)]; exact i3, by rw [(c3 i i2).1]; exact i4, by rw [(c3 i i2).2]; exact i5⟩
theorem lsR_mono2 {lo : Nat} (hk : kR m 0 w t S S1) (hc : ∀ i, lo ≤ i → i < hi → cw S1 m i = cw S m i) (hw : w ≤ w1) (ht : t ≤ t1) : ∀ (os : List Op) (a : Nat), lo ≤ a → a + wR (qK β n) os ≤ hi → lsR β n V P S m w t a os → lsR β n V P S1 m w1 t1 a os := by
  intro os
  induction os with
  | nil => intro a _ _ _; trivial
  | cons o r ih =>
    intro a hlo hh h
    have e : wR (qK β n) (o :: r) = lR (qK β n) o + wR (qK β n) r := rfl
    exact ⟨oR_mono2 hk hc hlo hw ht (by omega) h.1, ih _ (by omega) (by omega) h.2⟩
end
theorem jmp_n {K : Nat → Nat} {op : Nat} {os : List Op} (hop : op = 6 ∨ op = 7) : lR K (jmp K op os) = 2 ∧ nwO K (jmp K op os) = 0 ∧ ntO K (jmp K op os) = 0 := by
  refine ⟨lR_2 (show op = 6 ∨ op = 7 ∨ _ by omega), ?_, ?_⟩
  · unfold nwO
    rw [if_neg (fun c => by have h1 : op = 16 := c.1; omega)]
  · unfold ntO
    rw [if_neg (fun c => by have h1 : op = 16 := c.1; omega)]
section
variable {β : Nat → Nat} {n : Nat} {V : Nat → Int32} {P : Int32 → Int32 × Int32} {own0 : Nat → Nat × Nat} {d m u k w t j1 j2 g1 g2 a w1 t1 op : Nat} {S0 S S1 Sh S2 : cS} {o1 os : List Op} {q1 q2 : Prop}
theorem eOR_fill (hop : op = 6 ∨ op = 7) (h : eOR β n V P own0 m u S0 S k w t j1 g1 o1 q1 S1) (ha : a = k + wR (qK β n) o1) (hw1 : w1 = w + nwN (qK β n) o1) (ht1 : t1 = t + ntN (qK β n) o1) (hk : kR m a w1 t1 S1 Sh) (hc : cw Sh m a = nI (op + 7)) (g : eOR β n V P own0 m u S0 Sh (a + 2) w1 t1 j2 g2 os q2 S2) (hM : a + 2 + wR (qK β n) os < 2 ^ 17) : ∃ S3, Ans (d + 1) 326 [.ref 61, .int (nI (a + 1))] S2 none S3 ∧ eOR β n V P own0 m u S0 S k w t j2 0 (o1 ++ jmp (qK β n) op os :: os) False S3 := by
  obtain ⟨h1, h2, h3, h4, h5, h6⟩ := h
  obtain ⟨c1, c2, c3, c4, c5, c6⟩ := g
  obtain ⟨S3, hA, r1, r2, r3, r4, r5⟩ := rE_fill (d := d) (j := a + 1) c1 hM (by omega)
  obtain ⟨l1, l2, l3⟩ := jmp_n (K := qK β n) (os := os) hop
  have eW : wR (qK β n) (jmp (qK β n) op os :: os) = 2 + wR (qK β n) os := by show lR (qK β n) (jmp (qK β n) op os) + wR (qK β n) os = _; rw [l1]
  have eN : nwN (qK β n) (jmp (qK β n) op os :: os) = nwN (qK β n) os := by show nwO (qK β n) (jmp (qK β n) op os) + nwN (qK β n) os = _; rw [l2, Nat.zero_add]
  have eT : ntN (qK β n) (jmp (qK β n) op os :: os) = ntN (qK β n) os := by show ntO (qK β n) (jmp (qK β n) op os) + ntN (qK β n) os = _; rw [l3, Nat.zero_add]
  have k13 : kR m a w1 t1 S1 S3 := by
    have k12 := kR_trans hk c5 (by omega) (Nat.le_refl _) (Nat.le_refl _)
    exact ⟨fun i hi => (r3 i (by omega)).trans (k12.1 i hi), fun i hi => (r2.2.1 i (by omega)).trans (k12.2.1 i hi), fun i hi => ⟨(r2.2.2 i (by omega)).1.trans (k12.2.2 i hi).1, (r2.2.2 i (by omega)).2.trans (k12.2.2 i hi).2⟩⟩
  refine ⟨S3, hA, ?_⟩
  unfold eOR
  rw [wR_app, nwN_app, ntN_app, eW, eN, eT, ← Nat.add_assoc, ← Nat.add_assoc, ← Nat.add_assoc, ← Nat.add_assoc, ← ha, ← hw1, ← ht1]
  refine ⟨r1, (r5 _).trans c2, (r5 _).trans c3, (lsR_app o1 k).mpr ⟨?_, ?_⟩, ?_, fun c => c.elim⟩
  · rw [← hw1, ← ht1] at h4
    exact lsR_mono k13 (Nat.le_add_right _ _) (Nat.le_add_right _ _) o1 k (by omega) h4
  · rw [← ha]
    refine ⟨?_, ?_⟩
    · have e0 : cw S3 m a = nI (op + 7) := (r3 a (by omega)).trans ((c5.1 a (by omega)).trans hc)
      have e1 : cw S3 m (a + 1) = nI (1 + wR (qK β n) os) := by rw [r4]; exact congrArg nI (by omega)
      exact ⟨fun _ => ⟨e0, 1 + wR (qK β n) os, e1, rfl⟩, fun e => by have e2 : op = 25 := e; omega, fun e => by have e2 : op = 26 := e; omega, fun e => by have e2 : op = 39 := e; omega, fun e => by have e2 : 27 ≤ op ∧ op ≤ 38 := e; omega, fun e => by have e2 : op = 51 := e; omega, fun e => by have e2 : op = 49 ∨ op = 50 := e; omega, fun e => by have e2 : op = 44 := e; omega, fun e => by have e2 : op = 18 ∨ op = 21 := e; omega, fun e => by have e2 : op = 16 := e; omega, fun e => by have e2 : op = 16 := e; omega, fun e => by have e2 : op = 16 := e; omega⟩
    · rw [l1]
      exact lsR_mono2 (lo := a + 2) (hi := a + 2 + wR (qK β n) os) ⟨fun i hi => absurd hi (Nat.not_lt_zero i), r2.2.1, r2.2.2⟩ (fun i h1 h2 => r3 i (by omega)) (Nat.le_refl _) (Nat.le_refl _) os (a + 2) (Nat.le_refl _) (Nat.le_refl _) c4
  · exact kR_trans h5 k13 (by omega) (by omega) (by omega)
end
