/-! STATEMENTS OF THE REFERENCE: what a piece of a text comes to -/
/-- where the breaks of steps wait -/
def zbk (K : Nat → Nat) : Nat → List Op → List Nat
  | _, [] => []
  | a, o :: r => (if o.1 = 60 then [a + 1] else []) ++ zbk K (a + lR K o) r
theorem zbk_app (K : Nat → Nat) : ∀ (o1 o2 : List Op) (a : Nat), zbk K a (o1 ++ o2) = zbk K a o1 ++ zbk K (a + wR K o1) o2 := by
  intro o1 o2
  induction o1 with
  | nil => intro a; rfl
  | cons o r ih =>
    intro a
    show (if o.1 = 60 then [a + 1] else []) ++ zbk K (a + lR K o) (r ++ o2) = ((if o.1 = 60 then [a + 1] else []) ++ zbk K (a + lR K o) r) ++ zbk K (a + (lR K o + wR K r)) o2
    rw [ih, Nat.add_assoc, List.append_assoc]
/-- no breaks, classes' steps are whole -/
def n60 (os : List Op) : Prop := ∀ o, o ∈ os → o.1 ≠ 60
def w23 (os : List Op) : Prop := ∀ o, o ∈ os → o23 o
theorem zbk_n (K : Nat → Nat) : ∀ (os : List Op) (a : Nat), n60 os → zbk K a os = [] := by
  intro os
  induction os with
  | nil => intro a _; rfl
  | cons o r ih =>
    intro a h
    show (if o.1 = 60 then [a + 1] else []) ++ zbk K (a + lR K o) r = []
    rw [if_neg (h o (List.mem_cons_self ..)), ih _ (fun q hq => h q (List.mem_cons_of_mem _ hq))]
    rfl
theorem n60_app {a b : List Op} : n60 (a ++ b) ↔ n60 a ∧ n60 b := ⟨fun h => ⟨fun o ho => h o (List.mem_append.mpr (Or.inl ho)), fun o ho => h o (List.mem_append.mpr (Or.inr ho))⟩, fun h o ho => (List.mem_append.mp ho).elim (h.1 o) (h.2 o)⟩
theorem w23_app {a b : List Op} : w23 (a ++ b) ↔ w23 a ∧ w23 b := ⟨fun h => ⟨fun o ho => h o (List.mem_append.mpr (Or.inl ho)), fun o ho => h o (List.mem_append.mpr (Or.inr ho))⟩, fun h o ho => (List.mem_append.mp ho).elim (h.1 o) (h.2 o)⟩
theorem n60_1 {o : Op} (h : o.1 ≠ 60) : n60 [o] := fun q hq => by rw [List.mem_singleton.mp hq]; exact h
theorem w23_1 {o : Op} (h : o.1 ≠ 23) : w23 [o] := fun q hq => by rw [List.mem_singleton.mp hq]; exact fun e => absurd e h
theorem pg_n {os : List Op} {s : Nat} (h : ∀ o, o ∈ os → pg o) : n60 (os.map (tgsc s)) ∧ w23 (os.map (tgsc s)) := by
  refine ⟨fun q hq => ?_, fun q hq => ?_⟩
  · obtain ⟨o, h1, h2⟩ := List.mem_map.mp hq
    have h3 := h o h1
    rw [← h2, (tgsc_f s o).1]
    unfold pg at h3
    omega
  · obtain ⟨o, h1, h2⟩ := List.mem_map.mp hq
    have h3 := h o h1
    intro h4
    rw [← h2, (tgsc_f s o).1] at h4
    unfold pg at h3
    omega
theorem zpx_pg {K : Nat → Nat} {F t d k a b : Nat} {r : Nat × Nat × List Op} (h : px K F t d k a b = some r) : ∀ o, o ∈ r.2.2 → pg o := px_Q (Q := fun l => ∀ o, o ∈ l → pg o) (fun o ho => by cases ho) (fun a b ha hb o ho => (List.mem_append.mp ho).elim (ha o) (hb o)) (fun o ho q hq => by rw [List.mem_singleton.mp hq]; exact ho) F t d k a b r h
/-- the parser's ints that a statement brings back -/
def kI (S S1 : cS) : Prop := ∀ i, i ∈ [6117, 6122, 6123, 6126, 6127, 6134, 6137, 6140] → sI S1 i = sI S i
/-- what stands in its arrays: X 0 blocks, X 1 functions, X 2 loops, X 3 locals, X 4 outsides, X 5 ends, X 6 attributes -/
def kA (X : Nat → Nat) (S S1 : cS) : Prop := (∀ i, i ≤ X 0 → sA S1 73 i = sA S 73 i) ∧ (∀ i, i ≤ X 1 → sA S1 75 i = sA S 75 i ∧ sA S1 76 i = sA S 76 i ∧ sA S1 83 i = sA S 83 i) ∧ (∀ i, i < X 2 → sA S1 77 i = sA S 77 i ∧ sA S1 78 i = sA S 78 i) ∧ (∀ i, i < X 3 → sA S1 74 i = sA S 74 i) ∧ (∀ i, i < X 4 → sA S1 82 i = sA S 82 i) ∧ (∀ i, i < X 5 → sA S1 81 i = sA S 81 i) ∧ (∀ i, i < X 6 → sA S1 84 i = sA S 84 i)
theorem kI_refl (S : cS) : kI S S := fun _ _ => rfl
theorem kI_trans {S S1 S2 : cS} (h : kI S S1) (g : kI S1 S2) : kI S S2 := fun i hi => (g i hi).trans (h i hi)
theorem kA_refl (X : Nat → Nat) (S : cS) : kA X S S := ⟨fun _ _ => rfl, fun _ _ => ⟨rfl, rfl, rfl⟩, fun _ _ => ⟨rfl, rfl⟩, fun _ _ => rfl, fun _ _ => rfl, fun _ _ => rfl, fun _ _ => rfl⟩
theorem kA_trans {X : Nat → Nat} {S S1 S2 : cS} (h : kA X S S1) (g : kA X S1 S2) : kA X S S2 := ⟨fun i hi => (g.1 i hi).trans (h.1 i hi), fun i hi => ⟨(g.2.1 i hi).1.trans (h.2.1 i hi).1, (g.2.1 i hi).2.1.trans (h.2.1 i hi).2.1, (g.2.1 i hi).2.2.trans (h.2.1 i hi).2.2⟩, fun i hi => ⟨(g.2.2.1 i hi).1.trans (h.2.2.1 i hi).1, (g.2.2.1 i hi).2.trans (h.2.2.1 i hi).2⟩, fun i hi => (g.2.2.2.1 i hi).trans (h.2.2.2.1 i hi), fun i hi => (g.2.2.2.2.1 i hi).trans (h.2.2.2.2.1 i hi), fun i hi => (g.2.2.2.2.2.1 i hi).trans (h.2.2.2.2.2.1 i hi), fun i hi => (g.2.2.2.2.2.2 i hi).trans (h.2.2.2.2.2.2 i hi)⟩
theorem kA_le {X Y : Nat → Nat} {S S1 : cS} (h : kA Y S S1) (hXY : ∀ i, X i ≤ Y i) : kA X S S1 := ⟨fun i hi => h.1 i (Nat.le_trans hi (hXY 0)), fun i hi => h.2.1 i (Nat.le_trans hi (hXY 1)), fun i hi => h.2.2.1 i (Nat.lt_of_lt_of_le hi (hXY 2)), fun i hi => h.2.2.2.1 i (Nat.lt_of_lt_of_le hi (hXY 3)), fun i hi => h.2.2.2.2.1 i (Nat.lt_of_lt_of_le hi (hXY 4)), fun i hi => h.2.2.2.2.2.1 i (Nat.lt_of_lt_of_le hi (hXY 5)), fun i hi => h.2.2.2.2.2.2 i (Nat.lt_of_lt_of_le hi (hXY 6))⟩
theorem kA_eq {X : Nat → Nat} {S S1 : cS} (h : ∀ a, a ∈ [73, 74, 75, 76, 77, 78, 81, 82, 83, 84] → sA S1 a = sA S a) : kA X S S1 := by
  refine ⟨fun i _ => ?_, fun i _ => ⟨?_, ?_, ?_⟩, fun i _ => ⟨?_, ?_⟩, fun i _ => ?_, fun i _ => ?_, fun i _ => ?_, fun i _ => ?_⟩
  all_goals exact congrFun (h _ (by decide)) i
theorem kX_kA {m : Nat} {X : Nat → Nat} {S S1 : cS} (h : kX m S S1) : kA X S S1 := kA_eq (fun a ha => by
  simp only [List.mem_cons, List.not_mem_nil, or_false] at ha
  exact (h.2.1 a (by omega) (by omega) (by omega) (by omega)).1)
theorem kX_kI {m : Nat} {S S1 : cS} (h : kX m S S1) : kI S S1 := fun i hi => by
  simp only [List.mem_cons, List.not_mem_nil, or_false] at hi
  exact h.1 i (by omega) (by omega) (by omega) (by omega) (by omega)
/-- code, functions, breaks that stay -/
def kW (m c w t f b : Nat) (S S1 : cS) : Prop := kR m c w t S S1 ∧ (∀ i, i < f → dNm S1 m i = dNm S m i ∧ dAt S1 m i = dAt S m i ∧ dPa S1 m i = dPa S m i ∧ dLo S1 m i = dLo S m i) ∧ ∀ i, i < b → bkA S1 i = bkA S i ∧ bkL S1 i = bkL S i
theorem kW_refl (m c w t f b : Nat) (S : cS) : kW m c w t f b S S := ⟨kR_refl m c w t S, fun _ _ => ⟨rfl, rfl, rfl, rfl⟩, fun _ _ => ⟨rfl, rfl⟩⟩
theorem kW_trans {m c w t f b c1 w1 t1 f1 b1 : Nat} {S S1 S2 : cS} (h : kW m c w t f b S S1) (g : kW m c1 w1 t1 f1 b1 S1 S2) (hc : c ≤ c1) (hw : w ≤ w1) (ht : t ≤ t1) (hf : f ≤ f1) (hb : b ≤ b1) : kW m c w t f b S S2 := ⟨kR_trans h.1 g.1 hc hw ht, fun i hi => by
  obtain ⟨a1, a2, a3, a4⟩ := h.2.1 i hi
  obtain ⟨e1, e2, e3, e4⟩ := g.2.1 i (by omega)
  exact ⟨e1.trans a1, e2.trans a2, e3.trans a3, e4.trans a4⟩, fun i hi => ⟨(g.2.2 i (by omega)).1.trans (h.2.2 i hi).1, (g.2.2 i (by omega)).2.trans (h.2.2 i hi).2⟩⟩
theorem kX_kW {m c w t f b : Nat} {S S1 : cS} (h : kX m S S1) (g : kR m c w t S S1) : kW m c w t f b S S1 := ⟨g, fun i _ => ⟨congrFun h.2.2.1 i, congrFun h.2.2.2.1 i, congrFun h.2.2.2.2.1 i, congrFun h.2.2.2.2.2.1 i⟩, fun i _ => ⟨congrFun h.2.2.2.2.2.2.1 i, congrFun h.2.2.2.2.2.2.2.1 i⟩⟩
/-- good: steps os are put, token j is next, f1 functions; breaks wait for loop l -/
def zO (β : Nat → Nat) (n : Nat) (V : Nat → Int32) (P : Nat → Int32 → Int32 × Int32) (A : Prop) (own0 : Nat → Nat × Nat) (m u : Nat) (S0 : cS) (H B0 : Nat) (X : Nat → Nat) (l : Nat) (S : cS) (c w t f b j : Nat) (os : List Op) (f1 : Nat) (S1 : cS) : Prop :=
  zE own0 m u S0 H B0 (c + wR (qK β n) os) (w + nwN (qK β n) os) (t + ntN (qK β n) os) f1 (b + (zbk (qK β n) c os).length) S1 ∧ sI S1 6115 = nI j ∧ sI S1 6116 = nI 0 ∧ (A → lsS β n V P S1 m (w + nwN (qK β n) os) (t + ntN (qK β n) os) c os) ∧ w23 os ∧ kW m c w t f b S S1 ∧ kA X S S1 ∧ f ≤ f1 ∧ ∀ i p, (zbk (qK β n) c os)[i]? = some p → bkA S1 (b + i) = nI p ∧ bkL S1 (b + i) = nI l
/-- a fault on line l -/
def zB (own0 : Nat → Nat × Nat) (m u : Nat) (S0 : cS) (H B0 Mw l : Nat) (S1 : cS) : Prop := (∃ c w t f b, zE own0 m u S0 H B0 c w t f b S1 ∧ w ≤ Mw ∧ t ≤ Mw ∧ f ≤ Mw) ∧ sI S1 6116 = nI l ∧ ∃ j, j < 6001 ∧ sI S1 6115 = nI j
section
variable {β : Nat → Nat} {n : Nat} {V : Nat → Int32} {P : Nat → Int32 → Int32 × Int32} {own0 : Nat → Nat × Nat} {m u : Nat} {S0 S S1 S2 : cS} {H B0 d l c w t f b j j1 j2 f1 f2 : Nat} {X Y : Nat → Nat} {o1 o2 : List Op} {A A1 : Prop}
theorem zO_nil (h : zE own0 m u S0 H B0 c w t f b S) (ha : sI S 6115 = nI j) (hf : sI S 6116 = nI 0) : zO β n V P A own0 m u S0 H B0 X l S c w t f b j [] f S := ⟨h, ha, hf, fun _ => trivial, (fun o ho => by cases ho), kW_refl m c w t f b S, kA_refl X S, Nat.le_refl _, fun i p hp => by cases hp⟩
theorem zO_app (h : zO β n V P A1 own0 m u S0 H B0 X l S c w t f b j1 o1 f1 S1) (g : zO β n V P A own0 m u S0 H B0 Y l S1 (c + wR (qK β n) o1) (w + nwN (qK β n) o1) (t + ntN (qK β n) o1) f1 (b + (zbk (qK β n) c o1).length) j2 o2 f2 S2) (hXY : ∀ i, X i ≤ Y i) (hA : A → A1) : zO β n V P A own0 m u S0 H B0 X l S c w t f b j2 (o1 ++ o2) f2 S2 := by
  obtain ⟨h1, h2, h3, h4, h5, h6, h7, h8, h9⟩ := h
  obtain ⟨g1, g2, g3, g4, g5, g6, g7, g8, g9⟩ := g
  unfold zO
  rw [wR_app, nwN_app, ntN_app, zbk_app, List.length_append, ← Nat.add_assoc, ← Nat.add_assoc, ← Nat.add_assoc, ← Nat.add_assoc]
  refine ⟨g1, g2, g3, fun hq => (lsS_app o1 c).mpr ⟨lsS_mono g6.1 (Nat.le_add_right _ _) (Nat.le_add_right _ _) o1 c h5 (Nat.le_refl _) (h4 (hA hq)), g4 hq⟩, w23_app.mpr ⟨h5, g5⟩, kW_trans h6 g6 (Nat.le_add_right _ _) (Nat.le_add_right _ _) (Nat.le_add_right _ _) h8 (Nat.le_add_right _ _), kA_trans h7 (kA_le g7 hXY), Nat.le_trans h8 g8, fun i p hp => ?_⟩
  rw [List.getElem?_append] at hp
  split at hp
  · rename_i hi
    obtain ⟨e1, e2⟩ := g6.2.2 (b + i) (by omega)
    obtain ⟨q1, q2⟩ := h9 i p hp
    exact ⟨e1.trans q1, e2.trans q2⟩
  · rename_i hi
    obtain ⟨q1, q2⟩ := g9 _ p hp
    rw [show b + (zbk (qK β n) c o1).length + (i - (zbk (qK β n) c o1).length) = b + i by omega] at q1 q2
    exact ⟨q1, q2⟩
/-- the loop told doesn't matter where no break waits -/
theorem zO_l {l2 : Nat} (h : zO β n V P A own0 m u S0 H B0 X l S c w t f b j o1 f1 S1) (h60 : n60 o1) : zO β n V P A own0 m u S0 H B0 X l2 S c w t f b j o1 f1 S1 := by
  obtain ⟨h1, h2, h3, h4, h5, h6, h7, h8, h9⟩ := h
  refine ⟨h1, h2, h3, h4, h5, h6, h7, h8, fun i p hp => ?_⟩
  rw [zbk_n _ _ _ h60] at hp
  cases hp
theorem zO_X (h : zO β n V P A own0 m u S0 H B0 Y l S c w t f b j o1 f1 S1) (hXY : ∀ i, X i ≤ Y i) : zO β n V P A own0 m u S0 H B0 X l S c w t f b j o1 f1 S1 := ⟨h.1, h.2.1, h.2.2.1, h.2.2.2.1, h.2.2.2.2.1, h.2.2.2.2.2.1, kA_le h.2.2.2.2.2.2.1 hXY, h.2.2.2.2.2.2.2⟩
/-- an int of the parser's own changes behind -/
theorem kX_wI {i : Nat} {x : Int32} (hi : i = 6115 ∨ i = 6116 ∨ i = 6131 ∨ i = 6132) : kX m S (wI i x S) := ⟨fun j _ h1 h2 h3 h4 => rIn _ _ (by omega), fun _ _ _ _ _ => ⟨rfl, rfl⟩, rfl, rfl, rfl, rfl, rfl, rfl, rfl⟩
theorem kR_wI {i : Nat} {x : Int32} : kR m c w t S (wI i x S) := ⟨fun _ _ => rfl, fun _ _ => rfl, fun _ _ => ⟨rfl, rfl⟩⟩
theorem zO_at (h : zO β n V P A own0 m u S0 H B0 X l S c w t f b j o1 f1 S1) (x : Nat) : zO β n V P A own0 m u S0 H B0 X l S c w t f b x o1 f1 (wI 6115 (nI x) S1) := by
  have g : zO β n V P A own0 m u S0 H B0 X l S1 (c + wR (qK β n) o1) (w + nwN (qK β n) o1) (t + ntN (qK β n) o1) f1 (b + (zbk (qK β n) c o1).length) x [] f1 (wI 6115 (nI x) S1) := ⟨zE_wI h.1 (by decide), rIe _ _ _, (rIn _ _ (by decide)).trans h.2.2.1, fun _ => trivial, (fun o ho => by cases ho), kX_kW (kX_wI (Or.inl rfl)) kR_wI, kX_kA (m := m) (kX_wI (Or.inl rfl)), Nat.le_refl _, fun i p hp => by cases hp⟩
  have r := zO_app h g (fun _ => Nat.le_refl _) id
  rwa [List.append_nil] at r
/-- one step more, its words put -/
theorem zO_put {o : Op} (h : zO β n V P A own0 m u S0 H B0 X l S c w t f b j o1 f1 S1) (h2 : zE own0 m u S0 H B0 (c + wR (qK β n) o1 + lR (qK β n) o) (w + nwN (qK β n) o1) (t + ntN (qK β n) o1) f1 (b + (zbk (qK β n) c o1).length) S2) (hx : kX m S1 S2) (hr : kR m (c + wR (qK β n) o1) (w + nwN (qK β n) o1) (t + ntN (qK β n) o1) S1 S2) (h0 : sI S2 6115 = sI S1 6115 ∧ sI S2 6116 = sI S1 6116) (hn : o.1 ≠ 16) (h60 : o.1 ≠ 60) (h23 : o23 o) (hw : A → ∀ i x, (wdS V P o)[i]? = some x → cw S2 m (c + wR (qK β n) o1 + i) = x) : zO β n V P A own0 m u S0 H B0 X l S c w t f b j (o1 ++ [o]) f1 S2 := by
  have e1 : wR (qK β n) [o] = lR (qK β n) o := rfl
  have e2 : nwN (qK β n) [o] = 0 := by
    show nwO (qK β n) o + 0 = 0
    unfold nwO
    rw [if_neg (fun c => hn c.1)]
  have e3 : ntN (qK β n) [o] = 0 := by
    show ntO (qK β n) o + 0 = 0
    unfold ntO
    rw [if_neg (fun c => hn c.1)]
  have e4 : zbk (qK β n) (c + wR (qK β n) o1) [o] = [] := zbk_n _ _ _ (n60_1 h60)
  refine zO_app (Y := X) h ?_ (fun _ => Nat.le_refl _) id
  unfold zO
  rw [e1, e2, e3, e4]
  refine ⟨h2, h0.1.trans h.2.1, h0.2.trans h.2.2.1, fun hq => ⟨⟨hw hq, fun e => absurd e hn, fun e => absurd e hn, fun e => absurd e hn⟩, trivial⟩, fun q hq => by rw [List.mem_singleton.mp hq]; exact h23, kX_kW hx hr, kX_kA hx, Nat.le_refl _, fun i p hp => by cases hp⟩
end
