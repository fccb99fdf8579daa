/-! CODE OF THE REFERENCE: what its words say of the steps of a text; steps put one at a time -/
def jI (z : Int) : Int32 := Int32.ofInt z
theorem jI_n (q : Nat) : jI (q : Int) = nI q := rfl
/-- the scope in which a step's name stands -/
def sco (o : Op) : Nat := o.2.1.getD 1 0
/-- the words of a step (of all but constants); fewer where it doesn't matter -/
def wdS (V : Nat → Int32) (P : Nat → Int32 → Int32 × Int32) (o : Op) : List Int32 :=
  if o.1 = 0 then [nI 41] else if o.1 = 1 ∨ o.1 = 2 then [nI 0, nI (o.2.1.headD 0)] else if o.1 = 3 then [nI 42, nI (o.2.1.headD 0)]
  else if o.1 = 4 then [nI 11, jI o.2.2.2] else if o.1 = 5 then [nI 12, jI o.2.2.2] else if o.1 = 6 ∨ o.1 = 7 then [nI (o.1 + 7), jI o.2.2.2]
  else if o.1 = 8 then [nI 29] else if o.1 = 9 then [nI 31] else if o.1 = 10 then [nI 32, jI o.2.2.2] else if o.1 = 11 then [nI 33]
  else if o.1 = 12 then [nI 34, jI o.2.2.2] else if o.1 = 13 then List.replicate (o.2.1.headD 0) (nI 35) else if o.1 = 14 then [nI 30]
  else if o.1 = 15 then (if o.2.1 = [8] then [nI 39] else []) else if o.1 = 17 then [nI 20]
  else if 18 ≤ o.1 ∧ o.1 ≤ 21 then [nI (if o.1 = 21 then 5 else if o.1 = 18 then 4 else if o.1 = 19 then 6 else 7), V (o.2.1.headD 0), (P (sco o) (V (o.2.1.headD 0))).1, (P (sco o) (V (o.2.1.headD 0))).2]
  else if o.1 = 22 then [nI 37, nI (o.2.1.headD 0)]
  else if o.1 = 23 then [nI 40, V (o.2.1.headD 0), nI (o.2.1.getD 1 0), nI (o.2.1.length - 2)] ++ (o.2.1.drop 2).map V
  else if o.1 = 24 then [nI 38, nI (o.2.1.getD 1 0)] else if o.1 = 25 then [nI 10] else if o.1 = 26 then [nI 9]
  else if 27 ≤ o.1 ∧ o.1 ≤ 38 then [nI 8, nI (bsg (o.2.1.headD 0))] else if o.1 = 39 then [nI 15] else if o.1 = 40 then [nI 28, nI 15]
  else if o.1 = 41 then [nI 21] else if o.1 = 42 then [nI 23] else if o.1 = 43 then [nI 25] else if o.1 = 44 then [nI 16, V (o.2.1.headD 0)]
  else if o.1 = 45 then [nI 27, nI 16, V (o.2.1.headD 0)] else if o.1 = 46 then [nI 22, V (o.2.1.headD 0)] else if o.1 = 47 then [nI 24, V (o.2.1.headD 0)]
  else if o.1 = 48 then [nI 26, V (o.2.1.headD 0)] else if o.1 = 49 ∨ o.1 = 50 then [nI (o.1 - 31), nI (o.2.1.headD 0)] else if o.1 = 51 then [nI 17, nI (o.2.1.headD 0)]
  else if o.1 = 60 then [nI 11] else if o.1 = 61 then (if o.2.1 = [] then [nI 36] else []) else if o.1 = 63 then [nI 1] else []
def oS (β : Nat → Nat) (n : Nat) (V : Nat → Int32) (P : Nat → Int32 → Int32 × Int32) (S : cS) (m w t a : Nat) (o : Op) : Prop :=
  (∀ i x, (wdS V P o)[i]? = some x → cw S m (a + i) = x) ∧
  (o.1 = 16 → qK β n (o.2.1.headD 0) = 61 → cw S m a = nI 1) ∧
  (o.1 = 16 → qK β n (o.2.1.headD 0) ≠ 61 → qK β n (o.2.1.headD 0) ≠ 5 → cw S m a = nI 2 ∧ ∃ i, i < w ∧ cw S m (a + 1) = nI i ∧ cWh S m i = cvL β n (o.2.1.headD 0)) ∧
  (o.1 = 16 → qK β n (o.2.1.headD 0) = 5 → cw S m a = nI 3 ∧ ∃ i, i < t ∧ cw S m (a + 1) = nI i ∧ cFi S m i = p_A (fun i => β (qP β n (o.2.1.headD 0) + 1 + i)) (qE β n (o.2.1.headD 0) - qP β n (o.2.1.headD 0) - 2) ∧ cSe S m i = p_B (fun i => β (qP β n (o.2.1.headD 0) + 1 + i)) (qE β n (o.2.1.headD 0) - qP β n (o.2.1.headD 0) - 2))
def lsS (β : Nat → Nat) (n : Nat) (V : Nat → Int32) (P : Nat → Int32 → Int32 × Int32) (S : cS) (m w t : Nat) : Nat → List Op → Prop
  | _, [] => True
  | a, o :: r => oS β n V P S m w t a o ∧ lsS β n V P S m w t (a + lR (qK β n) o) r
theorem wd_len {V : Nat → Int32} {P : Nat → Int32 → Int32 × Int32} {K : Nat → Nat} {o : Op} (h23 : o.1 = 23 → 2 ≤ o.2.1.length) : (wdS V P o).length ≤ lR K o := by
  obtain ⟨t, p, x, y⟩ := o
  match t, h23 with
  | 0, _ => exact Nat.le_of_ble_eq_true rfl
  | 1, _ => exact Nat.le_of_ble_eq_true rfl
  | 2, _ => exact Nat.le_of_ble_eq_true rfl
  | 3, _ => exact Nat.le_of_ble_eq_true rfl
  | 4, _ => exact Nat.le_of_ble_eq_true rfl
  | 5, _ => exact Nat.le_of_ble_eq_true rfl
  | 6, _ => exact Nat.le_of_ble_eq_true rfl
  | 7, _ => exact Nat.le_of_ble_eq_true rfl
  | 8, _ => exact Nat.le_of_ble_eq_true rfl
  | 9, _ => exact Nat.le_of_ble_eq_true rfl
  | 10, _ => exact Nat.le_of_ble_eq_true rfl
  | 11, _ => exact Nat.le_of_ble_eq_true rfl
  | 12, _ => exact Nat.le_of_ble_eq_true rfl
  | 13, _ => exact Nat.le_of_eq List.length_replicate
  | 14, _ => exact Nat.le_of_ble_eq_true rfl
  | 15, _ =>
    show (if p = [8] then [nI 39] else []).length ≤ 1
    split
    · exact Nat.le_refl _
    · exact Nat.zero_le _
  | 16, _ => exact Nat.zero_le _
  | 17, _ => exact Nat.le_of_ble_eq_true rfl
  | 18, _ => exact Nat.le_of_ble_eq_true rfl
  | 19, _ => exact Nat.le_of_ble_eq_true rfl
  | 20, _ => exact Nat.le_of_ble_eq_true rfl
  | 21, _ => exact Nat.le_of_ble_eq_true rfl
  | 22, _ => exact Nat.le_of_ble_eq_true rfl
  | 23, h23 =>
    have h := h23 rfl
    show ([nI 40, V (p.headD 0), nI (p.getD 1 0), nI (p.length - 2)] ++ (p.drop 2).map V).length ≤ 2 + p.length
    rw [List.length_append, List.length_map, List.length_drop]
    show 4 + (p.length - 2) ≤ _
    have h : 2 ≤ p.length := h
    omega
  | 24, _ => exact Nat.le_of_ble_eq_true rfl
  | 25, _ => exact Nat.le_of_ble_eq_true rfl
  | 26, _ => exact Nat.le_of_ble_eq_true rfl
  | 27, _ => exact Nat.le_of_ble_eq_true rfl
  | 28, _ => exact Nat.le_of_ble_eq_true rfl
  | 29, _ => exact Nat.le_of_ble_eq_true rfl
  | 30, _ => exact Nat.le_of_ble_eq_true rfl
  | 31, _ => exact Nat.le_of_ble_eq_true rfl
  | 32, _ => exact Nat.le_of_ble_eq_true rfl
  | 33, _ => exact Nat.le_of_ble_eq_true rfl
  | 34, _ => exact Nat.le_of_ble_eq_true rfl
  | 35, _ => exact Nat.le_of_ble_eq_true rfl
  | 36, _ => exact Nat.le_of_ble_eq_true rfl
  | 37, _ => exact Nat.le_of_ble_eq_true rfl
  | 38, _ => exact Nat.le_of_ble_eq_true rfl
  | 39, _ => exact Nat.le_of_ble_eq_true rfl
  | 40, _ => exact Nat.le_of_ble_eq_true rfl
  | 41, _ => exact Nat.le_of_ble_eq_true rfl
  | 42, _ => exact Nat.le_of_ble_eq_true rfl
  | 43, _ => exact Nat.le_of_ble_eq_true rfl
  | 44, _ => exact Nat.le_of_ble_eq_true rfl
  | 45, _ => exact Nat.le_of_ble_eq_true rfl
  | 46, _ => exact Nat.le_of_ble_eq_true rfl
  | 47, _ => exact Nat.le_of_ble_eq_true rfl
  | 48, _ => exact Nat.le_of_ble_eq_true rfl
  | 49, _ => exact Nat.le_of_ble_eq_true rfl
  | 50, _ => exact Nat.le_of_ble_eq_true rfl
  | 51, _ => exact Nat.le_of_ble_eq_true rfl
  | 52, _ => exact Nat.le_of_ble_eq_true rfl
  | 53, _ => exact Nat.le_of_ble_eq_true rfl
  | 54, _ => exact Nat.le_of_ble_eq_true rfl
  | 55, _ => exact Nat.le_of_ble_eq_true rfl
  | 56, _ => exact Nat.le_of_ble_eq_true rfl
  | 57, _ => exact Nat.le_of_ble_eq_true rfl
  | 58, _ => exact Nat.le_of_ble_eq_true rfl
  | 59, _ => exact Nat.le_of_ble_eq_true rfl
  | 60, _ => exact Nat.le_of_ble_eq_true rfl
  | 61, _ =>
    show (if p = [] then [nI 36] else []).length ≤ 1
    split
    · exact Nat.le_refl _
    · exact Nat.zero_le _
  | 62, _ => exact Nat.le_of_ble_eq_true rfl
  | 63, _ => exact Nat.le_of_ble_eq_true rfl
  | q + 64, _ =>
    have e : wdS V P (q + 64, p, x, y) = [] := by
      unfold wdS
      dsimp only
      repeat rw [if_neg (by omega)]
    rw [e]
    exact Nat.zero_le _
section
variable {β : Nat → Nat} {n : Nat} {V : Nat → Int32} {P : Nat → Int32 → Int32 × Int32} {S S1 : cS} {m w t w1 t1 lo hi : Nat}
theorem lsS_app {o2 : List Op} : ∀ (o1 : List Op) (a : Nat), lsS β n V P S m w t a (o1 ++ o2) ↔ lsS β n V P S m w t a o1 ∧ lsS β n V P S m w t (a + wR (qK β n) o1) o2 := by
  intro o1
  induction o1 with
  | nil => intro a; exact ⟨fun h => ⟨trivial, h⟩, fun h => h.2⟩
  | cons o r ih =>
    intro a
    show oS β n V P S m w t a o ∧ lsS β n V P S m w t (a + lR (qK β n) o) (r ++ o2) ↔ (oS β n V P S m w t a o ∧ lsS β n V P S m w t (a + lR (qK β n) o) r) ∧ lsS β n V P S m w t (a + (lR (qK β n) o + wR (qK β n) r)) o2
    rw [ih, Nat.add_assoc, and_assoc]
/-- words of a class step are at least two -/
def o23 (o : Op) : Prop := o.1 = 23 → 2 ≤ o.2.1.length
/-- the same words at a place b: still the same step -/
theorem oS_mv {a b : Nat} {o : Op} (h2 : o23 o) (hc : ∀ i, i < lR (qK β n) o → cw S1 m (b + i) = cw S m (a + i)) (hW : ∀ i, i < w → cWh S1 m i = cWh S m i) (hT : ∀ i, i < t → cFi S1 m i = cFi S m i ∧ cSe S1 m i = cSe S m i) (hw : w ≤ w1) (ht : t ≤ t1) (h : oS β n V P S m w t a o) : oS β n V P S1 m w1 t1 b o := by
  obtain ⟨g1, g2, g3, g4⟩ := h
  have hl := wd_len (V := V) (P := P) (K := qK β n) h2
  refine ⟨fun i x hx => ?_, fun e f => ?_, fun e f g => ?_, fun e f => ?_⟩
  · have hi := (List.getElem?_eq_some_iff.mp hx).1
    rw [hc i (by omega)]
    exact g1 i x hx
  · have e1 := lR_16 (K := qK β n) (o := o) e
    rw [if_pos f] at e1
    exact (hc 0 (by omega)).trans (g2 e f)
  · have e1 := lR_16 (K := qK β n) (o := o) e
    rw [if_neg f] at e1
    obtain ⟨i1, i, i2, i3, i4⟩ := g3 e f g
    exact ⟨(hc 0 (by omega)).trans i1, i, by omega, (hc 1 (by omega)).trans i3, by rw [hW i i2]; exact i4⟩
  · have e1 := lR_16 (K := qK β n) (o := o) e
    rw [if_neg (by omega)] at e1
    obtain ⟨i1, i, i2, i3, i4, i5⟩ := g4 e f
    exact ⟨(hc 0 (by omega)).trans i1, i, by omega, (hc 1 (by omega)).trans i3, by rw [(hT i i2).1]; exact i4, by rw [(hT i i2).2]; exact i5⟩
theorem lsS_mv (hW : ∀ i, i < w → cWh S1 m i = cWh S m i) (hT : ∀ i, i < t → cFi S1 m i = cFi S m i ∧ cSe S1 m i = cSe S m i) (hw : w ≤ w1) (ht : t ≤ t1) : ∀ (os : List Op) (a b : Nat), (∀ o, o ∈ os → o23 o) → (∀ i, i < wR (qK β n) os → cw S1 m (b + i) = cw S m (a + i)) → lsS β n V P S m w t a os → lsS β n V P S1 m w1 t1 b os := by
  intro os
  induction os with
  | nil => intro a b _ _ _; trivial
  | cons o r ih =>
    intro a b h2 hc h
    have e : wR (qK β n) (o :: r) = lR (qK β n) o + wR (qK β n) r := rfl
    exact ⟨oS_mv (h2 o (List.mem_cons_self ..)) (fun i hi => hc i (by omega)) hW hT hw ht h.1, ih _ _ (fun q hq => h2 q (List.mem_cons_of_mem _ hq)) (fun i hi => by have := hc (lR (qK β n) o + i) (by omega); rwa [← Nat.add_assoc, ← Nat.add_assoc] at this) h.2⟩
theorem lsS_mono (hk : kR m hi w t S S1) (hw : w ≤ w1) (ht : t ≤ t1) (os : List Op) (a : Nat) (h2 : ∀ o, o ∈ os → o23 o) (hh : a + wR (qK β n) os ≤ hi) (h : lsS β n V P S m w t a os) : lsS β n V P S1 m w1 t1 a os := lsS_mv hk.2.1 hk.2.2 hw ht os a a h2 (fun i hi => hk.1 _ (by omega)) h
end
/-! the steps of an expression -/
theorem tgsc_f (s : Nat) (o : Op) : (tgsc s o).1 = o.1 ∧ (tgsc s o).2.2 = o.2.2 ∧ (tgsc s o).2.1.headD 0 = o.2.1.headD 0 ∧ (18 ≤ o.1 ∧ o.1 ≤ 21 → sco (tgsc s o) = s) ∧ (¬ (18 ≤ o.1 ∧ o.1 ≤ 21) → tgsc s o = o) := by
  unfold tgsc
  split
  · rename_i h
    exact ⟨rfl, rfl, rfl, fun _ => rfl, fun g => absurd h g⟩
  · rename_i h
    exact ⟨rfl, rfl, rfl, fun g => absurd g h, fun _ => rfl⟩
theorem lR_tgsc (K : Nat → Nat) (s : Nat) (o : Op) : lR K (tgsc s o) = lR K o := by
  obtain ⟨h1, h2, h3, h4, h5⟩ := tgsc_f s o
  by_cases h : 18 ≤ o.1 ∧ o.1 ≤ 21
  · unfold lR
    rw [h1, if_neg (by omega), if_pos h, if_neg (by omega), if_pos h]
  · rw [h5 h]
theorem wR_tgsc (K : Nat → Nat) (s : Nat) : ∀ os : List Op, wR K (os.map (tgsc s)) = wR K os := by
  intro os
  induction os with
  | nil => rfl
  | cons o r ih =>
    show lR K (tgsc s o) + wR K (r.map (tgsc s)) = lR K o + wR K r
    rw [lR_tgsc, ih]
theorem nwO_tgsc (K : Nat → Nat) (s : Nat) (o : Op) : nwO K (tgsc s o) = nwO K o ∧ ntO K (tgsc s o) = ntO K o := by
  obtain ⟨h1, h2, h3, h4, h5⟩ := tgsc_f s o
  unfold nwO ntO
  rw [h1, h3]
  exact ⟨rfl, rfl⟩
theorem nwN_tgsc (K : Nat → Nat) (s : Nat) : ∀ os : List Op, nwN K (os.map (tgsc s)) = nwN K os ∧ ntN K (os.map (tgsc s)) = ntN K os := by
  intro os
  induction os with
  | nil => exact ⟨rfl, rfl⟩
  | cons o r ih =>
    obtain ⟨e1, e2⟩ := nwO_tgsc K s o
    constructor
    · show nwO K (tgsc s o) + nwN K (r.map (tgsc s)) = nwO K o + nwN K r
      rw [e1, ih.1]
    · show ntO K (tgsc s o) + ntN K (r.map (tgsc s)) = ntO K o + ntN K r
      rw [e2, ih.2]
section
variable {β : Nat → Nat} {n : Nat} {V : Nat → Int32} {P : Nat → Int32 → Int32 × Int32} {S : cS} {m w t : Nat}
theorem two_w {S : cS} {m a : Nat} {x y : Int32} (h1 : cw S m a = x) (h2 : cw S m (a + 1) = y) : ∀ i z, [x, y][i]? = some z → cw S m (a + i) = z := by
  intro i z h
  match i, h with
  | 0, h => injection h with h; rw [← h]; exact h1
  | 1, h => injection h with h; rw [← h]; exact h2
  | i + 2, h => cases h
theorem one_w {S : cS} {m a : Nat} {x : Int32} (h1 : cw S m a = x) : ∀ i z, [x][i]? = some z → cw S m (a + i) = z := by
  intro i z h
  match i, h with
  | 0, h => injection h with h; rw [← h]; exact h1
  | i + 1, h => cases h
theorem oR_oS {s a : Nat} {o : Op} (ht : pg o) (h : oR β n V (P s) S m w t a o) : oS β n V P S m w t a (tgsc s o) := by
  obtain ⟨e1, e2, e3, e4, e5⟩ := tgsc_f s o
  obtain ⟨h1, h2, h3, h4, h5, h6, h7, h8, h9, h10, h11, h12⟩ := h
  unfold oS
  rw [e1, e3]
  refine ⟨?_, h10, h11, h12⟩
  have ht := ht
  unfold pg at ht
  by_cases c18 : o.1 = 18 ∨ o.1 = 21
  · obtain ⟨q1, q2, q3, q4⟩ := h9 c18
    have es := e4 (by omega)
    unfold wdS
    rw [e1, e3, es, if_neg (by omega), if_neg (by omega), if_neg (by omega), if_neg (by omega), if_neg (by omega), if_neg (by omega), if_neg (by omega), if_neg (by omega), if_neg (by omega), if_neg (by omega), if_neg (by omega), if_neg (by omega), if_neg (by omega), if_neg (by omega), if_neg (by omega), if_pos (by omega)]
    intro i z hz
    match i, hz with
    | 0, hz =>
      injection hz with hz
      rw [← hz, show a + 0 = a from rfl, q1]
      rcases c18 with c | c
      · rw [c]; rfl
      · rw [c]; rfl
    | 1, hz => injection hz with hz; rw [← hz]; exact q2
    | 2, hz => injection hz with hz; rw [← hz]; exact q3
    | 3, hz => injection hz with hz; rw [← hz]; exact q4
    | i + 4, hz => cases hz
  by_cases c16 : o.1 = 16
  · unfold wdS
    rw [e1, c16]
    intro i z hz
    cases hz
  rw [e5 (by omega)]
  unfold wdS
  by_cases c6 : o.1 = 6 ∨ o.1 = 7
  · obtain ⟨q1, q, q2, q3⟩ := h1 c6
    rw [if_neg (by omega), if_neg (by omega), if_neg (by omega), if_neg (by omega), if_neg (by omega), if_pos c6]
    exact two_w q1 (by rw [← q3]; exact q2)
  rw [if_neg (by omega), if_neg (by omega), if_neg (by omega), if_neg (by omega), if_neg (by omega), if_neg c6, if_neg (by omega), if_neg (by omega), if_neg (by omega), if_neg (by omega), if_neg (by omega), if_neg (by omega), if_neg (by omega), if_neg (by omega), if_neg (by omega), if_neg (by omega), if_neg (by omega), if_neg (by omega), if_neg (by omega)]
  by_cases c25 : o.1 = 25
  · rw [if_pos c25]; exact one_w (h2 c25)
  rw [if_neg c25]
  by_cases c26 : o.1 = 26
  · rw [if_pos c26]; exact one_w (h3 c26)
  rw [if_neg c26]
  by_cases c27 : 27 ≤ o.1 ∧ o.1 ≤ 38
  · rw [if_pos c27]
    obtain ⟨q1, q2⟩ := h5 c27
    exact two_w q1 q2
  rw [if_neg c27]
  by_cases c39 : o.1 = 39
  · rw [if_pos c39]; exact one_w (h4 c39)
  rw [if_neg c39, if_neg (by omega), if_neg (by omega), if_neg (by omega), if_neg (by omega)]
  by_cases c44 : o.1 = 44
  · rw [if_pos c44]
    obtain ⟨q1, q2⟩ := h8 c44
    exact two_w q1 q2
  rw [if_neg c44, if_neg (by omega), if_neg (by omega), if_neg (by omega), if_neg (by omega)]
  by_cases c49 : o.1 = 49 ∨ o.1 = 50
  · rw [if_pos c49]
    obtain ⟨q1, q2⟩ := h7 c49
    exact two_w q1 q2
  rw [if_neg c49]
  have c51 : o.1 = 51 := by omega
  rw [if_pos c51]
  obtain ⟨q1, q2⟩ := h6 c51
  exact two_w q1 q2
theorem lsR_lsS {s : Nat} : ∀ (os : List Op) (a : Nat), (∀ o, o ∈ os → pg o) → lsR β n V (P s) S m w t a os → lsS β n V P S m w t a (os.map (tgsc s)) := by
  intro os
  induction os with
  | nil => intro a _ _; trivial
  | cons o r ih =>
    intro a ht h
    refine ⟨oR_oS (ht o (List.mem_cons_self ..)) h.1, ?_⟩
    rw [lR_tgsc]
    exact ih _ (fun q hq => ht q (List.mem_cons_of_mem _ hq)) h.2
end
