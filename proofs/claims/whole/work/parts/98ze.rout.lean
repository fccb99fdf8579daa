/-! AN EXPRESSION OF THE REFERENCE, read: its steps are put, the token behind it, its target -/
def trl (g : Nat) : Nat := if g = 1 then 4 else if g = 2 then 1 else 2
/-- q: under what the target is told (behind a name that is called it is told later) -/
def eOR (β : Nat → Nat) (n : Nat) (V : Nat → Int32) (P : Int32 → Int32 × Int32) (own0 : Nat → Nat × Nat) (m u : Nat) (S0 S : cS) (k w t j1 g : Nat) (os : List Op) (q : Prop) (S1 : cS) : Prop := rE own0 m u S0 (k + wR (qK β n) os) (w + nwN (qK β n) os) (t + ntN (qK β n) os) S1 ∧ sI S1 6115 = nI j1 ∧ sI S1 6116 = nI 0 ∧ lsR β n V P S1 m (w + nwN (qK β n) os) (t + ntN (qK β n) os) k os ∧ kR m k w t S S1 ∧ (q → sI S1 6131 = nI g ∧ (g ≠ 0 → sI S1 6132 = nI (k + wR (qK β n) os - trl g)))
section
variable {β : Nat → Nat} {n : Nat} {V : Nat → Int32} {P : Int32 → Int32 × Int32} {own0 : Nat → Nat × Nat} {d m u k w t j1 j2 g1 g2 : Nat} {S0 S S1 S2 : cS} {o1 o2 : List Op} {q1 q2 : Prop}
theorem eOR_app (h : eOR β n V P own0 m u S0 S k w t j1 g1 o1 q1 S1) (g : eOR β n V P own0 m u S0 S1 (k + wR (qK β n) o1) (w + nwN (qK β n) o1) (t + ntN (qK β n) o1) j2 g2 o2 q2 S2) : eOR β n V P own0 m u S0 S k w t j2 g2 (o1 ++ o2) q2 S2 := by
  obtain ⟨h1, h2, h3, h4, h5, h6⟩ := h
  obtain ⟨c1, c2, c3, c4, c5, c6⟩ := g
  unfold eOR
  rw [wR_app, nwN_app, ntN_app, ← Nat.add_assoc, ← Nat.add_assoc, ← Nat.add_assoc]
  exact ⟨c1, c2, c3, (lsR_app o1 k).mpr ⟨lsR_mono c5 (Nat.le_add_right _ _) (Nat.le_add_right _ _) o1 k (Nat.le_refl _) h4, c4⟩, kR_trans h5 c5 (Nat.le_add_right _ _) (Nat.le_add_right _ _) (Nat.le_add_right _ _), c6⟩
theorem eOR_q (h : eOR β n V P own0 m u S0 S k w t j1 g1 o1 q1 S1) (hq : q2 → q1) : eOR β n V P own0 m u S0 S k w t j1 g1 o1 q2 S1 := ⟨h.1, h.2.1, h.2.2.1, h.2.2.2.1, h.2.2.2.2.1, fun x => h.2.2.2.2.2 (hq x)⟩
/-- nothing read -/
theorem eOR_nil (h : rE own0 m u S0 k w t S) (ha : sI S 6115 = nI j1) (hf : sI S 6116 = nI 0) (ht : q1 → sI S 6131 = nI g1 ∧ (g1 ≠ 0 → sI S 6132 = nI (k - trl g1))) : eOR β n V P own0 m u S0 S k w t j1 g1 [] q1 S := ⟨h, ha, hf, trivial, kR_refl m k w t S, ht⟩
/-- the parser's own ints change: the token, the target -/
theorem eOR_at {x : Nat} (h : eOR β n V P own0 m u S0 S k w t j1 g1 o1 q1 S1) : eOR β n V P own0 m u S0 S k w t x g1 o1 q1 (wI 6115 (nI x) S1) := by
  obtain ⟨h1, h2, h3, h4, h5, h6⟩ := h
  obtain ⟨r1, r2⟩ := rE_wI (i := 6115) (x := nI x) h1 (Or.inl rfl)
  exact ⟨r1, rIe _ _ _, (rIn _ _ (by decide)).trans h3, lsR_mono r2 (Nat.le_refl _) (Nat.le_refl _) o1 k (Nat.le_refl _) h4, kR_trans h5 r2 (Nat.le_add_right _ _) (Nat.le_add_right _ _) (Nat.le_add_right _ _), fun x => ⟨(rIn _ _ (by decide)).trans (h6 x).1, fun y => (rIn _ _ (by decide)).trans ((h6 x).2 y)⟩⟩
theorem eOR_t0 (h : eOR β n V P own0 m u S0 S k w t j1 g1 o1 q1 S1) : eOR β n V P own0 m u S0 S k w t j1 0 o1 True (wI 6131 (nI 0) S1) := by
  obtain ⟨h1, h2, h3, h4, h5, h6⟩ := h
  obtain ⟨r1, r2⟩ := rE_wI (i := 6131) (x := nI 0) h1 (Or.inr (Or.inr (Or.inl rfl)))
  exact ⟨r1, (rIn _ _ (by decide)).trans h2, (rIn _ _ (by decide)).trans h3, lsR_mono r2 (Nat.le_refl _) (Nat.le_refl _) o1 k (Nat.le_refl _) h4, kR_trans h5 r2 (Nat.le_add_right _ _) (Nat.le_add_right _ _) (Nat.le_add_right _ _), fun _ => ⟨rIe _ _ _, fun y => absurd rfl y⟩⟩
/-- one step more, of one word; of two -/
theorem eOR_1 {o : Op} {x : Int32} (h : eOR β n V P own0 m u S0 S k w t j1 g1 o1 q1 S1) (hk : k + wR (qK β n) o1 < 2 ^ 16) (h86 : ∀ p t, p < 1500 → sQ S0 86 p = some t → t ≠ m) (hm : 108 ≤ m) (hl : lR (qK β n) o = 1) (hn : o.1 ≠ 16) (ho : ∀ S2 : cS, cw S2 m (k + wR (qK β n) o1) = x → oR β n V P S2 m (w + nwN (qK β n) o1) (t + ntN (qK β n) o1) (k + wR (qK β n) o1) o) : ∃ S2, Ans (d + 4) 322 [.ref 61, .int x] S1 none S2 ∧ eOR β n V P own0 m u S0 S k w t j1 0 (o1 ++ [o]) False S2 := by
  obtain ⟨h1, h2, h3, h4, h5, h6⟩ := id h
  obtain ⟨S2, hA, r1, r2, r3, r4⟩ := rE_1 (d := d) h1 (by omega) h86 x
  have e1 : wR (qK β n) [o] = 1 := by show lR (qK β n) o + 0 = 1; rw [hl]
  have e2 : nwN (qK β n) [o] = 0 := by
    show nwO (qK β n) o + 0 = 0
    unfold nwO
    rw [if_neg (fun c => hn c.1)]
  have e3 : ntN (qK β n) [o] = 0 := by
    show ntO (qK β n) o + 0 = 0
    unfold ntO
    rw [if_neg (fun c => hn c.1)]
  refine ⟨S2, hA, eOR_app h ?_⟩
  unfold eOR
  rw [e1, e2, e3]
  exact ⟨r1, (r4 _ (by omega)).trans h2, (r4 _ (by omega)).trans h3, ⟨ho S2 r3, trivial⟩, r2, fun c => c.elim⟩
theorem eOR_2 {o : Op} {x y : Int32} (h : eOR β n V P own0 m u S0 S k w t j1 g1 o1 q1 S1) (hk : k + wR (qK β n) o1 < 2 ^ 16) (h86 : ∀ p t, p < 1500 → sQ S0 86 p = some t → t ≠ m) (hm : 108 ≤ m) (hl : lR (qK β n) o = 2) (hn : o.1 ≠ 16) (ho : ∀ S2 : cS, cw S2 m (k + wR (qK β n) o1) = x → cw S2 m (k + wR (qK β n) o1 + 1) = y → oR β n V P S2 m (w + nwN (qK β n) o1) (t + ntN (qK β n) o1) (k + wR (qK β n) o1) o) : ∃ S2, Ans (d + 4) 302 [.ref 61, .int x, .int y] S1 none S2 ∧ eOR β n V P own0 m u S0 S k w t j1 0 (o1 ++ [o]) False S2 := by
  obtain ⟨h1, h2, h3, h4, h5, h6⟩ := id h
  obtain ⟨S2, hA, r1, r2, r3, r4, r5⟩ := rE_2 (d := d) h1 (by omega) h86 x y
  have e1 : wR (qK β n) [o] = 2 := by show lR (qK β n) o + 0 = 2; rw [hl]
  have e2 : nwN (qK β n) [o] = 0 := by
    show nwO (qK β n) o + 0 = 0
    unfold nwO
    rw [if_neg (fun c => hn c.1)]
  have e3 : ntN (qK β n) [o] = 0 := by
    show ntO (qK β n) o + 0 = 0
    unfold ntO
    rw [if_neg (fun c => hn c.1)]
  refine ⟨S2, hA, eOR_app h ?_⟩
  unfold eOR
  rw [e1, e2, e3]
  exact ⟨r1, (r5 _ (by omega)).trans h2, (r5 _ (by omega)).trans h3, ⟨ho S2 r3 r4, trivial⟩, r2, fun c => c.elim⟩
end
