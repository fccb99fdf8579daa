/-! CODE OF THE REFERENCE: what its words say of the steps of an expression -/
/-- the sign of BINARY, by the kind of the sign's token -/
def bsg (k : Nat) : Nat := if k = 45 then 1 else if k = 60 then 2 else if k = 23 then 43 else if k = 24 then 45 else if k = 25 then 42 else rsg k
/-- P: where a name stands -/
def oR (β : Nat → Nat) (n : Nat) (V : Nat → Int32) (P : Int32 → Int32 × Int32) (S : cS) (m w t a : Nat) (o : Op) : Prop :=
  (o.1 = 6 ∨ o.1 = 7 → cw S m a = nI (o.1 + 7) ∧ ∃ q : Nat, cw S m (a + 1) = nI q ∧ (q : Int) = o.2.2.2) ∧
  (o.1 = 25 → cw S m a = nI 10) ∧ (o.1 = 26 → cw S m a = nI 9) ∧ (o.1 = 39 → cw S m a = nI 15) ∧
  (27 ≤ o.1 ∧ o.1 ≤ 38 → cw S m a = nI 8 ∧ cw S m (a + 1) = nI (bsg (o.2.1.headD 0))) ∧
  (o.1 = 51 → cw S m a = nI 17 ∧ cw S m (a + 1) = nI (o.2.1.headD 0)) ∧
  (o.1 = 49 ∨ o.1 = 50 → cw S m a = nI (o.1 - 31) ∧ cw S m (a + 1) = nI (o.2.1.headD 0)) ∧
  (o.1 = 44 → cw S m a = nI 16 ∧ cw S m (a + 1) = V (o.2.1.headD 0)) ∧
  (o.1 = 18 ∨ o.1 = 21 → cw S m a = nI (if o.1 = 21 then 5 else 4) ∧ cw S m (a + 1) = V (o.2.1.headD 0) ∧ cw S m (a + 2) = (P (V (o.2.1.headD 0))).1 ∧ cw S m (a + 3) = (P (V (o.2.1.headD 0))).2) ∧
  (o.1 = 16 → qK β n (o.2.1.headD 0) = 61 → cw S m a = nI 1) ∧
  (o.1 = 16 → qK β n (o.2.1.headD 0) ≠ 61 → qK β n (o.2.1.headD 0) ≠ 5 → cw S m a = nI 2 ∧ ∃ i, i < w ∧ cw S m (a + 1) = nI i ∧ cWh S m i = cvL β n (o.2.1.headD 0)) ∧
  (o.1 = 16 → qK β n (o.2.1.headD 0) = 5 → cw S m a = nI 3 ∧ ∃ i, i < t ∧ cw S m (a + 1) = nI i ∧ cFi S m i = p_A (fun i => β (qP β n (o.2.1.headD 0) + 1 + i)) (qE β n (o.2.1.headD 0) - qP β n (o.2.1.headD 0) - 2) ∧ cSe S m i = p_B (fun i => β (qP β n (o.2.1.headD 0) + 1 + i)) (qE β n (o.2.1.headD 0) - qP β n (o.2.1.headD 0) - 2))
def lsR (β : Nat → Nat) (n : Nat) (V : Nat → Int32) (P : Int32 → Int32 × Int32) (S : cS) (m w t : Nat) : Nat → List Op → Prop
  | _, [] => True
  | a, o :: r => oR β n V P S m w t a o ∧ lsR β n V P S m w t (a + lR (qK β n) o) r
section
variable {β : Nat → Nat} {n : Nat} {V : Nat → Int32} {P : Int32 → Int32 × Int32} {S S1 : cS} {m w t w1 t1 hi : Nat}
theorem lsR_app {o2 : List Op} : ∀ (o1 : List Op) (a : Nat), lsR β n V P S m w t a (o1 ++ o2) ↔ lsR β n V P S m w t a o1 ∧ lsR β n V P S m w t (a + wR (qK β n) o1) o2 := by
  intro o1
  induction o1 with
  | nil => intro a; exact ⟨fun h => ⟨trivial, h⟩, fun h => h.2⟩
  | cons o r ih =>
    intro a
    show oR β n V P S m w t a o ∧ lsR β n V P S m w t (a + lR (qK β n) o) (r ++ o2) ↔ (oR β n V P S m w t a o ∧ lsR β n V P S m w t (a + lR (qK β n) o) r) ∧ lsR β n V P S m w t (a + (lR (qK β n) o + wR (qK β n) r)) o2
    rw [ih, Nat.add_assoc, and_assoc]
theorem lR_2 {K : Nat → Nat} {o : Op} (h : o.1 = 6 ∨ o.1 = 7 ∨ (27 ≤ o.1 ∧ o.1 ≤ 38) ∨ o.1 = 51 ∨ o.1 = 49 ∨ o.1 = 50 ∨ o.1 = 44) : lR K o = 2 := by
  unfold lR
  rw [if_neg (by omega), if_neg (by omega), if_neg (by omega), if_neg (by omega)]
  by_cases h1 : 27 ≤ o.1 ∧ o.1 ≤ 38
  · rw [if_pos h1]
  · rw [if_neg h1, if_neg (by omega), if_neg (by omega), if_neg (by omega), if_neg (by omega)]
theorem lR_1 {K : Nat → Nat} {o : Op} (h : o.1 = 25 ∨ o.1 = 26 ∨ o.1 = 39) : lR K o = 1 := by
  unfold lR
  rw [if_neg (by omega), if_neg (by omega), if_neg (by omega), if_neg (by omega), if_neg (by omega), if_neg (by omega), if_neg (by omega), if_neg (by omega), if_pos (by omega)]
theorem lR_4 {K : Nat → Nat} {o : Op} (h : o.1 = 18 ∨ o.1 = 21) : lR K o = 4 := by
  unfold lR
  rw [if_neg (by omega), if_pos (by omega)]
theorem lR_16 {K : Nat → Nat} {o : Op} (h : o.1 = 16) : lR K o = if K (o.2.1.headD 0) = 61 then 1 else 2 := by
  unfold lR
  rw [if_neg (by omega), if_neg (by omega), if_neg (by omega), if_pos h]
theorem oR_mono {a : Nat} {o : Op} (hk : kR m hi w t S S1) (hw : w ≤ w1) (ht : t ≤ t1) (hh : a + lR (qK β n) o ≤ hi) (h : oR β n V P S m w t a o) : oR β n V P S1 m w1 t1 a o := by
  obtain ⟨c1, c2, c3⟩ := hk
  obtain ⟨h1, h2, h3, h4, h5, h6, h7, h8, h9, h10, h11, h12⟩ := h
  refine ⟨fun e => ?_, fun e => ?_, fun e => ?_, fun e => ?_, fun e => ?_, fun e => ?_, fun e => ?_, fun e => ?_, fun e => ?_, fun e f => ?_, fun e f g => ?_, fun e f => ?_⟩
  · have := lR_2 (K := qK β n) (o := o) (by omega)
    rw [c1 a (by omega), c1 (a + 1) (by omega)]; exact h1 e
  · have := lR_1 (K := qK β n) (o := o) (by omega)
    rw [c1 a (by omega)]; exact h2 e
  · have := lR_1 (K := qK β n) (o := o) (by omega)
    rw [c1 a (by omega)]; exact h3 e
  · have := lR_1 (K := qK β n) (o := o) (by omega)
    rw [c1 a (by omega)]; exact h4 e
  · have := lR_2 (K := qK β n) (o := o) (by omega)
    rw [c1 a (by omega), c1 (a + 1) (by omega)]; exact h5 e
  · have := lR_2 (K := qK β n) (o := o) (by omega)
    rw [c1 a (by omega), c1 (a + 1) (by omega)]; exact h6 e
  · have := lR_2 (K := qK β n) (o := o) (by omega)
    rw [c1 a (by omega), c1 (a + 1) (by omega)]; exact h7 e
  · have := lR_2 (K := qK β n) (o := o) (by omega)
    rw [c1 a (by omega), c1 (a + 1) (by omega)]; exact h8 e
  · have := lR_4 (K := qK β n) (o := o) e
    rw [c1 a (by omega), c1 (a + 1) (by omega), c1 (a + 2) (by omega), c1 (a + 3) (by omega)]; exact h9 e
  · have e1 := lR_16 (K := qK β n) (o := o) e
    rw [if_pos f] at e1
    rw [c1 a (by omega)]; exact h10 e f
  · have e1 := lR_16 (K := qK β n) (o := o) e
    rw [if_neg f] at e1
    obtain ⟨i1, i, i2, i3, i4⟩ := h11 e f g
    exact ⟨by rw [c1 a (by omega)]; exact i1, i, by omega, by rw [c1 (a + 1) (by omega)]; exact i3, by rw [c2 i i2]; exact i4⟩
  · have e1 := lR_16 (K := qK β n) (o := o) e
    rw [if_neg (by omega)] at e1
    obtain ⟨i1, i, i2, i3, i4, i5⟩ := h12 e f
    exact ⟨by rw [c1 a (by omega)]; exact i1, i, by omega, by rw [c1 (a + 1) (by omega)]; exact i3, by rw [(c3 i i2).1]; exact i4, by rw [(c3 i i2).2]; exact i5⟩
theorem lsR_mono (hk : kR m hi w t S S1) (hw : w ≤ w1) (ht : t ≤ t1) : ∀ (os : List Op) (a : Nat), a + wR (qK β n) os ≤ hi → lsR β n V P S m w t a os → lsR β n V P S1 m w1 t1 a os := by
  intro os
  induction os with
  | nil => intro a _ _; trivial
  | cons o r ih =>
    intro a hh h
    have e : wR (qK β n) (o :: r) = lR (qK β n) o + wR (qK β n) r := rfl
    exact ⟨oR_mono hk hw ht (by omega) h.1, ih _ (by omega) h.2⟩
end
/-- numbers and texts of steps -/
def nwO (K : Nat → Nat) (o : Op) : Nat := if o.1 = 16 ∧ K (o.2.1.headD 0) ≠ 61 ∧ K (o.2.1.headD 0) ≠ 5 then 1 else 0
def ntO (K : Nat → Nat) (o : Op) : Nat := if o.1 = 16 ∧ K (o.2.1.headD 0) = 5 then 1 else 0
def nwN (K : Nat → Nat) : List Op → Nat
  | [] => 0
  | o :: r => nwO K o + nwN K r
def ntN (K : Nat → Nat) : List Op → Nat
  | [] => 0
  | o :: r => ntO K o + ntN K r
theorem nwN_app (K : Nat → Nat) (a b : List Op) : nwN K (a ++ b) = nwN K a + nwN K b := by
  induction a with
  | nil => exact (Nat.zero_add _).symm
  | cons o r ih => show nwO K o + nwN K (r ++ b) = nwO K o + nwN K r + nwN K b; rw [ih]; omega
theorem ntN_app (K : Nat → Nat) (a b : List Op) : ntN K (a ++ b) = ntN K a + ntN K b := by
  induction a with
  | nil => exact (Nat.zero_add _).symm
  | cons o r ih => show ntO K o + ntN K (r ++ b) = ntO K o + ntN K r + ntN K b; rw [ih]; omega
