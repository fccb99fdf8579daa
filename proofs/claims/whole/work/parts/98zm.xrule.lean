/-! THE REFERENCE'S EXPRESSIONS: what a rule of EXPR gives there -/
def pg (o : Op) : Prop := o.1 = 6 ∨ o.1 = 7 ∨ o.1 = 16 ∨ o.1 = 18 ∨ o.1 = 21 ∨ (25 ≤ o.1 ∧ o.1 ≤ 39) ∨ o.1 = 44 ∨ (49 ≤ o.1 ∧ o.1 ≤ 51)
/-- what holds of nothing, of each step alone and of one row behind another holds of an expression -/
theorem px_Q {K : Nat → Nat} {Q : List Op → Prop} (h0 : Q []) (ha : ∀ a b, Q a → Q b → Q (a ++ b)) (h1 : ∀ o, pg o → Q [o]) : ∀ F t d k a b r, px K F t d k a b = some r → Q r.2.2 := by
  have hc : ∀ o l, pg o → Q l → Q (o :: l) := fun o l ho hl => ha [o] l (h1 o ho) hl
  intro F
  induction F with
  | zero => intro t d k a b r h; cases h
  | succ F ih =>
    have hL : ∀ t u d k r, pxL (px K F) t u d k = some r → Q r.2.2 := fun t u d k r h => by
      unfold pxL at h
      obtain ⟨r1, h1, h⟩ := Option.bind_eq_some_iff.mp h
      obtain ⟨r2, h2, h⟩ := Option.bind_eq_some_iff.mp h
      injection h with h
      subst h
      exact ha _ _ (ih _ _ _ _ _ _ h1) (ih _ _ _ _ _ _ h2)
    have hJ : ∀ w op t u d k a r, (op = 6 ∨ op = 7) → pxJ K (px K F) w op t u d k a = some r → Q r.2.2 := fun w op t u d k a r hop h => by
      unfold pxJ at h
      split at h
      · obtain ⟨r1, h1, h⟩ := Option.bind_eq_some_iff.mp h
        obtain ⟨r2, h2, h⟩ := Option.bind_eq_some_iff.mp h
        injection h with h
        subst h
        exact hc _ _ (by have e : (jmp K op r1.2.2).1 = op := rfl; unfold pg; omega) (ha _ _ (ih _ _ _ _ _ _ h1) (ih _ _ _ _ _ _ h2))
      · injection h with h
        subst h
        exact h0
    have hO : ∀ op t u d k a r, (∀ x, op x ≠ 0 → 25 ≤ op x ∧ op x ≤ 39) → pxO K (px K F) op t u d k a = some r → Q r.2.2 := fun op t u d k a r hop h => by
      unfold pxO at h
      split at h
      · rename_i hk
        obtain ⟨r1, h1, h⟩ := Option.bind_eq_some_iff.mp h
        obtain ⟨r2, h2, h⟩ := Option.bind_eq_some_iff.mp h
        injection h with h
        subst h
        have e2 := hop _ hk
        exact ha _ _ (ih _ _ _ _ _ _ h1) (hc _ _ (by unfold pg; dsimp only; omega) (ih _ _ _ _ _ _ h2))
      · injection h with h
        subst h
        exact h0
    have hU : ∀ w op t u d k r, (op = 25 ∨ op = 26) → pxU K (px K F) w op t u d k = some r → Q r.2.2 := fun w op t u d k r hop h => by
      unfold pxU at h
      split at h
      · split at h
        · cases h
        obtain ⟨r1, h1, h⟩ := Option.bind_eq_some_iff.mp h
        injection h with h
        subst h
        exact ha _ _ (ih _ _ _ _ _ _ h1) (hc _ _ (by unfold pg; dsimp only; omega) h0)
      · exact ih _ _ _ _ _ _ h
    intro t d k a b r h
    replace h : pxS K (px K F) t d k a b = some r := h
    unfold pxS at h
    split at h
    · exact hL _ _ _ _ _ h
    · exact hJ _ _ _ _ _ _ _ _ (Or.inr rfl) h
    · exact hL _ _ _ _ _ h
    · exact hJ _ _ _ _ _ _ _ _ (Or.inl rfl) h
    · exact hU _ _ _ _ _ _ _ (Or.inl rfl) h
    · unfold px5 at h
      obtain ⟨r1, h1, h⟩ := Option.bind_eq_some_iff.mp h
      split at h
      · injection h with h
        subst h
        exact ih _ _ _ _ _ _ h1
      · rename_i hk
        obtain ⟨r2, h2, h⟩ := Option.bind_eq_some_iff.mp h
        injection h with h
        subst h
        have e2 := cmpO_ok hk
        exact ha _ _ (ih _ _ _ _ _ _ h1) (ha _ _ (ih _ _ _ _ _ _ h2) (hc _ _ (by unfold pg; dsimp only; omega) h0))
    · exact hL _ _ _ _ _ h
    · exact hO _ _ _ _ _ _ _ (fun x hx => by have := sumO_ok hx; omega) h
    · exact hL _ _ _ _ _ h
    · exact hO _ _ _ _ _ _ _ (fun x hx => by have := trmO_ok hx; omega) h
    · exact hU _ _ _ _ _ _ _ (Or.inr rfl) h
    · exact hL _ _ _ _ _ h
    · unfold px12 at h
      split at h
      · split at h
        · cases h
        obtain ⟨r1, h1, h⟩ := Option.bind_eq_some_iff.mp h
        obtain ⟨r2, h2, h⟩ := Option.bind_eq_some_iff.mp h
        injection h with h
        subst h
        exact ha _ _ (ih _ _ _ _ _ _ h1) (hc _ _ (by unfold pg; dsimp only; omega) (ih _ _ _ _ _ _ h2))
      split at h
      · split at h
        · cases h
        obtain ⟨r1, h1, h⟩ := Option.bind_eq_some_iff.mp h
        split at h
        · obtain ⟨r2, h2, h⟩ := Option.bind_eq_some_iff.mp h
          injection h with h
          subst h
          exact ha _ _ (ih _ _ _ _ _ _ h1) (hc _ _ (by unfold pg; dsimp only; omega) (ih _ _ _ _ _ _ h2))
        · cases h
      split at h
      · split at h
        · obtain ⟨r2, h2, h⟩ := Option.bind_eq_some_iff.mp h
          injection h with h
          subst h
          exact hc _ _ (by unfold pg; dsimp only; omega) (ih _ _ _ _ _ _ h2)
        · cases h
      · injection h with h
        subst h
        exact h0
    · unfold px13 at h
      split at h
      · injection h with h
        subst h
        exact h0
      split at h
      · cases h
      obtain ⟨r1, h1, h⟩ := Option.bind_eq_some_iff.mp h
      split at h
      · injection h with h
        subst h
        exact ih _ _ _ _ _ r1 h1
      split at h
      · obtain ⟨r2, h2, h⟩ := Option.bind_eq_some_iff.mp h
        injection h with h
        subst h
        exact ha _ _ (ih _ _ _ _ _ _ h1) (ih _ _ _ _ _ _ h2)
      · cases h
    · unfold px14 at h
      split at h
      · injection h with h
        subst h
        exact h0
      split at h
      · cases h
      obtain ⟨r1, h1, h⟩ := Option.bind_eq_some_iff.mp h
      split at h
      · obtain ⟨r3, h3, h⟩ := Option.bind_eq_some_iff.mp h
        split at h
        · injection h with h
          subst h
          exact ha _ _ (ih _ _ _ _ _ _ h1) (ih _ _ _ _ _ _ h3)
        split at h
        · obtain ⟨r2, h2, h⟩ := Option.bind_eq_some_iff.mp h
          injection h with h
          subst h
          exact ha _ _ (ih _ _ _ _ _ _ h1) (ha _ _ (ih _ _ _ _ _ _ h3) (ih _ _ _ _ _ _ h2))
        · cases h
      · cases h
    · unfold px15 at h
      split at h
      · injection h with h
        subst h
        refine hc _ _ ?_ h0
        unfold pg
        dsimp only
        split <;> omega
      split at h
      · injection h with h
        subst h
        exact hc _ _ (by unfold pg; dsimp only; omega) h0
      split at h
      · split at h
        · cases h
        obtain ⟨r1, h1, h⟩ := Option.bind_eq_some_iff.mp h
        split at h
        · injection h with h
          subst h
          exact ih _ _ _ _ _ r1 h1
        · cases h
      split at h
      · split at h
        · cases h
        obtain ⟨r1, h1, h⟩ := Option.bind_eq_some_iff.mp h
        injection h with h
        subst h
        exact ha _ _ (ih _ _ _ _ _ _ h1) (hc _ _ (by unfold pg; dsimp only; omega) h0)
      split at h
      · split at h
        · cases h
        obtain ⟨r1, h1, h⟩ := Option.bind_eq_some_iff.mp h
        injection h with h
        subst h
        exact ha _ _ (ih _ _ _ _ _ _ h1) (hc _ _ (by unfold pg; dsimp only; omega) h0)
      · cases h
theorem pg_lR {K : Nat → Nat} {o : Op} (h : pg o) : lR K o ≤ 2 * lC o ∧ nwO K o ≤ cnO o ∧ ntO K o ≤ cnO o := by
  refine ⟨?_, ?_, ?_⟩
  · by_cases h16 : o.1 = 16
    · have h2 := lR_16 (K := K) h16
      have h3 := lC_2 (o := o) (by omega)
      rw [h2, h3]
      split <;> omega
    by_cases h18 : o.1 = 18 ∨ o.1 = 21
    · have h2 := lR_4 (K := K) h18
      have h3 : 3 ≤ lC o := by
        rcases h18 with e | e
        · rw [lC_n (by omega)]; omega
        · rw [lC_21 e]; omega
      omega
    by_cases h25 : o.1 = 25 ∨ o.1 = 26 ∨ o.1 = 39
    · have h2 := lR_1 (K := K) h25
      have h3 := lC_1 (o := o) (by omega)
      omega
    · have h2 := lR_2 (K := K) (o := o) (by unfold pg at h; omega)
      have h3 := lC_1 (o := o) (by unfold pg at h; omega)
      omega
  · unfold nwO cnO
    split
    · rename_i h2
      rw [if_pos (Or.inl h2.1)]
      exact Nat.le_refl _
    · exact Nat.zero_le _
  · unfold ntO cnO
    split
    · rename_i h2
      rw [if_pos (Or.inl h2.1)]
      exact Nat.le_refl _
    · exact Nat.zero_le _
theorem px_w {K : Nat → Nat} {F t d k a b : Nat} {r : Nat × Nat × List Op} (h : px K F t d k a b = some r) : wR K r.2.2 ≤ 2 * wC r.2.2 ∧ nwN K r.2.2 ≤ cnN r.2.2 ∧ ntN K r.2.2 ≤ cnN r.2.2 := by
  refine px_Q (Q := fun l => wR K l ≤ 2 * wC l ∧ nwN K l ≤ cnN l ∧ ntN K l ≤ cnN l) ⟨Nat.le_refl _, Nat.le_refl _, Nat.le_refl _⟩ (fun x y hx hy => ?_) (fun o ho => ?_) F t d k a b r h
  · rw [wR_app, wC_app, nwN_app, ntN_app, cnN_app]
    omega
  · obtain ⟨g1, g2, g3⟩ := pg_lR (K := K) ho
    exact ⟨by show lR K o + 0 ≤ 2 * (lC o + 0); omega, by show nwO K o + 0 ≤ cnO o + 0; omega, by show ntO K o + 0 ≤ cnO o + 0; omega⟩
/-- what an expression takes: of all rules alike -/
theorem px_pm {K : Nat → Nat} {F t d k a b : Nat} {r : Nat × Nat × List Op} (ht : t ∈ [0, 2, 4, 5, 6, 8, 10, 11, 15] ∨ t ∈ [1, 3, 7, 9, 12] ∨ t = 14 ∨ (t = 13 ∧ 3 ≤ b)) (h : px K F t d k a b = some r) : k ≤ r.1 ∧ (t ∈ [0, 2, 4, 5, 6, 8, 10, 11, 15] → k + 1 ≤ r.1) ∧ (∀ j, k ≤ j → j < r.1 → 3 ≤ K j) ∧ wR K r.2.2 ≤ 8 * (r.1 - k) ∧ nwN K r.2.2 ≤ r.1 - k ∧ ntN K r.2.2 ≤ r.1 - k := by
  obtain ⟨w1, w2, w3⟩ := px_w h
  obtain ⟨G1, G2, G3, G4, G5, G6⟩ := px_G K F
  have key : ∃ m c x y, pxq K m c x y k r.1 r.2.2 ∧ c ≤ m ∧ y ≤ m ∧ m ≤ 1 ∧ (t ∈ [0, 2, 4, 5, 6, 8, 10, 11, 15] → m = 1) := by
    rcases ht with ht | ht | ht | ht
    · by_cases h15 : t = 15
      · subst h15
        exact ⟨_, _, _, _, G6 _ _ _ _ _ h, Nat.le_refl _, e6_le _ _, Nat.le_refl _, fun _ => rfl⟩
      · refine ⟨_, _, _, _, G1 t ?_ _ _ _ _ _ h, Nat.le_refl _, Nat.zero_le _, Nat.le_refl _, fun _ => rfl⟩
        simp only [List.mem_cons, List.not_mem_nil, or_false] at ht ⊢
        omega
    · have hn : ¬ t ∈ [0, 2, 4, 5, 6, 8, 10, 11, 15] := by
        simp only [List.mem_cons, List.not_mem_nil, or_false] at ht ⊢
        omega
      by_cases h12 : t = 12
      · subst h12
        exact ⟨_, _, _, _, G3 _ _ _ _ _ h, Nat.le_refl _, Nat.le_refl _, Nat.zero_le _, fun e => absurd e hn⟩
      · refine ⟨_, _, _, _, G2 t ?_ _ _ _ _ _ h, Nat.le_refl _, Nat.le_refl _, Nat.zero_le _, fun e => absurd e hn⟩
        simp only [List.mem_cons, List.not_mem_nil, or_false] at ht ⊢
        omega
    · subst ht
      exact ⟨_, _, _, _, G5 _ _ _ _ _ h, Nat.zero_le _, Nat.zero_le _, Nat.le_refl _, fun _ => rfl⟩
    · obtain ⟨rfl, hb⟩ := ht
      exact ⟨_, _, _, _, G4 _ _ _ _ _ hb h, Nat.zero_le _, Nat.zero_le _, Nat.le_refl _, fun _ => rfl⟩
  obtain ⟨m, c, x, y, ⟨q1, q2, q3, q4, q5⟩, q6, q7, q8, q9⟩ := key
  exact ⟨by omega, fun e => by have := q9 e; omega, q2, by omega, by omega, by omega⟩
theorem fl_eq {β : Nat → Nat} {n j k : Nat} (h : qL β n j = qL β n k) : fl β n j = fl β n k := by
  unfold fl
  rw [h]
/-- a text of the reference, its tokens lexed: k1 is the end -/
def cX (β : Nat → Nat) (n : Nat) (V : Nat → Int32) (P : Int32 → Int32 × Int32) (m : Nat) (S0 : cS) (k1 Mx Mw : Nat) : Prop := n ≤ 3000 ∧ k1 < 6001 ∧ qK β n k1 = 1 ∧ (∀ j, j < k1 → qK β n j ≠ 1) ∧ 108 ≤ m ∧ Mx ≤ 40000 ∧ Mw ≤ 40000 ∧ (∀ p t, p < 1500 → sQ S0 86 p = some t → t ≠ m) ∧ (∃ g0 g1 nn, nn ≤ 90000 ∧ ∀ j, j ≤ k1 → rTk β n S0 g0 g1 nn j) ∧ (∀ j, V j = sA S0 68 j) ∧ ∃ F a en oa o, scR S0 F a en oa o ∧ ∀ x, P x = nplc S0 F a en oa o x
/-- a fault on the line of token k -/
def xB (β : Nat → Nat) (n : Nat) (own0 : Nat → Nat × Nat) (m u : Nat) (S0 : cS) (Mx Mw k : Nat) (S1 : cS) : Prop := (∃ c w t, rE own0 m u S0 c w t S1 ∧ c ≤ Mx ∧ w ≤ Mw ∧ t ≤ Mw) ∧ sI S1 6116 = nI (fl β n k) ∧ ∃ j, j < 6001 ∧ sI S1 6115 = nI j
def xO (β : Nat → Nat) (n : Nat) (V : Nat → Int32) (P : Int32 → Int32 × Int32) (own0 : Nat → Nat × Nat) (m u : Nat) (S0 : cS) (Mx Mw : Nat) (S : cS) (c w t k : Nat) (q : Nat → Prop) (r : PR) (v : Int32) (S1 : cS) : Prop := (r = none → v = nI 0 ∧ xB β n own0 m u S0 Mx Mw k S1) ∧ ∀ x, r = some x → v = nI 1 ∧ eOR β n V P own0 m u S0 S c w t x.1 x.2.1 x.2.2 (q x.1) S1
def RQ (β : Nat → Nat) (n k c w t Mx Mw : Nat) : Prop := c + 8 * (n - qP β n k) ≤ Mx ∧ w + (n - qP β n k) ≤ Mw ∧ t + (n - qP β n k) ≤ Mw
def jr (t : Nat) : Nat := if t = 0 then 306 else if t = 2 then 307 else if t = 4 then 308 else if t = 5 then 310 else if t = 6 then 311 else if t = 8 then 312 else if t = 10 then 313 else if t = 11 then 315 else 316
section
variable {β : Nat → Nat} {n : Nat} {V : Nat → Int32} {P : Int32 → Int32 × Int32} {own0 : Nat → Nat × Nat} {m u k1 Mx Mw : Nat} {S0 : cS}
theorem xO_none {S S1 : cS} {c w t k : Nat} {q : Nat → Prop} {r : PR} {v : Int32} (hr : r = none) (hv : v = nI 0) (h : xB β n own0 m u S0 Mx Mw k S1) : xO β n V P own0 m u S0 Mx Mw S c w t k q r v S1 := ⟨fun _ => ⟨hv, h⟩, fun x hx => by rw [hr] at hx; cases hx⟩
theorem xO_some {S S1 : cS} {c w t k : Nat} {q : Nat → Prop} {r : PR} {v : Int32} {x : Nat × Nat × List Op} (hr : r = some x) (hv : v = nI 1) (h : eOR β n V P own0 m u S0 S c w t x.1 x.2.1 x.2.2 (q x.1) S1) : xO β n V P own0 m u S0 Mx Mw S c w t k q r v S1 := by
  refine ⟨fun hn => ?_, fun y hy => ?_⟩
  · rw [hr] at hn; cases hn
  · rw [hr] at hy
    injection hy with hy
    subst hy
    exact ⟨hv, h⟩
theorem xB_eq {S1 : cS} {j k : Nat} (h : xB β n own0 m u S0 Mx Mw j S1) (e : qL β n j = qL β n k) : xB β n own0 m u S0 Mx Mw k S1 := ⟨h.1, h.2.1.trans (by rw [fl_eq e]), h.2.2⟩
/-- where an expression ends -/
theorem xpm_at (hX : cX β n V P m S0 k1 Mx Mw) {F t d k a b c w tt : Nat} {r : Nat × Nat × List Op} (ht : t ∈ [0, 2, 4, 5, 6, 8, 10, 11, 15] ∨ t ∈ [1, 3, 7, 9, 12] ∨ t = 14 ∨ (t = 13 ∧ 3 ≤ b)) (hk : k ≤ k1) (hR : RQ β n k c w tt Mx Mw) (h : px (qK β n) F t d k a b = some r) : k ≤ r.1 ∧ r.1 ≤ k1 ∧ qP β n k + (r.1 - k) ≤ qP β n r.1 ∧ qP β n r.1 ≤ n ∧ qL β n r.1 = qL β n k ∧ RQ β n r.1 (c + wR (qK β n) r.2.2) (w + nwN (qK β n) r.2.2) (tt + ntN (qK β n) r.2.2) Mx Mw ∧ (t ∈ [0, 2, 4, 5, 6, 8, 10, 11, 15] → k + 1 ≤ r.1) := by
  obtain ⟨p1, p2, p3, p4, p5, p6⟩ := px_pm ht h
  obtain ⟨v1, v2, v3, v4⟩ := q_run p1 p3
  have hq := q_lt β n r.1
  have hle : r.1 ≤ k1 := by
    rcases Nat.lt_or_ge k1 r.1 with h2 | h2
    · have := p3 k1 hk h2
      rw [hX.2.2.1] at this
      omega
    · exact h2
  obtain ⟨r1, r2, r3⟩ := hR
  exact ⟨p1, hle, v1, hq.1, v2, ⟨by omega, by omega, by omega⟩, p2⟩
/-- a token that is one: the next is on the same line -/
theorem xnx_at (hX : cX β n V P m S0 k1 Mx Mw) {k c w tt : Nat} (hk : k ≤ k1) (h3 : 3 ≤ qK β n k) (hR : RQ β n k c w tt Mx Mw) : k + 1 ≤ k1 ∧ qL β n (k + 1) = qL β n k ∧ qP β n k + 1 ≤ qP β n (k + 1) ∧ qP β n (k + 1) ≤ n ∧ RQ β n (k + 1) c w tt Mx Mw ∧ RQ β n (k + 1) (c + 8) w tt Mx Mw := by
  obtain ⟨g1, g2, g3, g4, g5, g6⟩ := q_gt h3
  have hq := q_lt β n (k + 1)
  have hne : k ≠ k1 := fun e => by rw [e, hX.2.2.1] at h3; omega
  obtain ⟨r1, r2, r3⟩ := hR
  exact ⟨by omega, g5, g2, hq.1, ⟨by omega, by omega, by omega⟩, ⟨by omega, by omega, by omega⟩⟩
theorem eOR_x {S T S1 : cS} {k w t j1 g : Nat} {os : List Op} {q : Prop} (hk : kR m k w t S T) (h : eOR β n V P own0 m u S0 T k w t j1 g os q S1) : eOR β n V P own0 m u S0 S k w t j1 g os q S1 := ⟨h.1, h.2.1, h.2.2.1, h.2.2.2.1, kR_trans hk h.2.2.2.2.1 (Nat.le_refl _) (Nat.le_refl _) (Nat.le_refl _), h.2.2.2.2.2⟩
theorem xO_x {S T S1 : cS} {c w t k : Nat} {q : Nat → Prop} {r : PR} {v : Int32} (hk : kR m c w t S T) (h : xO β n V P own0 m u S0 Mx Mw T c w t k q r v S1) : xO β n V P own0 m u S0 Mx Mw S c w t k q r v S1 := ⟨h.1, fun x hx => ⟨(h.2 x hx).1, eOR_x hk (h.2 x hx).2⟩⟩
theorem xB_0 (hX : cX β n V P m S0 k1 Mx Mw) {S : cS} {c w t j : Nat} (hE : rE own0 m u S0 c w t S) (hR : RQ β n j c w t Mx Mw) (x : Nat) (hx : x = fl β n j) (ha : sI S 6115 = nI j) (hj : j < 6001) : xB β n own0 m u S0 Mx Mw j (wI 6116 (nI x) S) := by
  obtain ⟨r1, r2, r3⟩ := hR
  exact ⟨⟨c, w, t, (rE_wI hE (Or.inr (Or.inl rfl))).1, by omega, by omega, by omega⟩, by rw [hx]; exact rIe _ _ _, j, hj, (rIn _ _ (by decide)).trans ha⟩
theorem cX_tk (hX : cX β n V P m S0 k1 Mx Mw) {j : Nat} (hj : j ≤ k1) : ∃ g0 g1 nn, nn ≤ 90000 ∧ rTk β n S0 g0 g1 nn j := by
  obtain ⟨g0, g1, nn, h1, h2⟩ := hX.2.2.2.2.2.2.2.2.1
  exact ⟨g0, g1, nn, h1, h2 j hj⟩
theorem xsg_at (hX : cX β n V P m S0 k1 Mx Mw) {S : cS} {d j c w t K : Nat} (hE : rE own0 m u S0 c w t S) (ha : sI S 6115 = nI j) (hj : j ≤ k1) (hK : 6 ≤ K ∧ K ≤ 29) : (qK β n j = K → Ans (d + 1) 314 [.ref 61, .int (nI (rsg K))] S (some (.int (nI 1))) S) ∧ (qK β n j ≠ K → Ans (d + 1) 314 [.ref 61, .int (nI (rsg K))] S (some (.int (nI 0))) S) := by
  obtain ⟨g0, g1, nn, h1, h2⟩ := cX_tk hX hj
  have h3 := is_sg (d := d) hE h2 ha (by have := hX.2.1; omega) hK
  refine ⟨fun e => ?_, fun e => ?_⟩
  · rw [beq_yes e] at h3; exact h3
  · rw [beq_no e] at h3; exact h3
theorem xwd_at (hX : cX β n V P m S0 k1 Mx Mw) {S : cS} {d j c w t q : Nat} (hE : rE own0 m u S0 c w t S) (ha : sI S 6115 = nI j) (hj : j ≤ k1) (hq : q < 24) : (qK β n j = 40 + q → Ans (d + 1) 309 [.ref 61, .int (nI q)] S (some (.int (nI 1))) S) ∧ (qK β n j ≠ 40 + q → Ans (d + 1) 309 [.ref 61, .int (nI q)] S (some (.int (nI 0))) S) := by
  obtain ⟨g0, g1, nn, h1, h2⟩ := cX_tk hX hj
  have h3 := is_wd (d := d) hE h2 ha (by have := hX.2.1; omega) hq
  refine ⟨fun e => ?_, fun e => ?_⟩
  · rw [beq_yes e] at h3; exact h3
  · rw [beq_no e] at h3; exact h3
theorem xbd_at (hX : cX β n V P m S0 k1 Mx Mw) {S : cS} {d j c w t : Nat} (hE : rE own0 m u S0 c w t S) (ha : sI S 6115 = nI j) (hf : sI S 6116 = nI 0) (hj : j ≤ k1) (hR : RQ β n j c w t Mx Mw) : ∃ S1, Ans (d + 2) 299 [.ref 61] S (some (.int (nI 0))) S1 ∧ xB β n own0 m u S0 Mx Mw j S1 := by
  obtain ⟨g0, g1, nn, h1, h2⟩ := cX_tk hX hj
  exact ⟨_, bad_T (d := d) hE h2 hX.1 ha (by have := hX.2.1; omega) hf, xB_0 hX hE hR _ rfl ha (by have := hX.2.1; omega)⟩
/-- takeSign -/
theorem xtk_at (hX : cX β n V P m S0 k1 Mx Mw) {S : cS} {d j c w t K : Nat} (hE : rE own0 m u S0 c w t S) (ha : sI S 6115 = nI j) (hf : sI S 6116 = nI 0) (hj : j ≤ k1) (hR : RQ β n j c w t Mx Mw) (hK : 6 ≤ K ∧ K ≤ 29) : (qK β n j = K → Ans (d + 3) 323 [.ref 61, .int (nI (rsg K))] S (some (.int (nI 1))) (wI 6115 (nI (j + 1)) S)) ∧ (qK β n j ≠ K → ∃ S1, Ans (d + 3) 323 [.ref 61, .int (nI (rsg K))] S (some (.int (nI 0))) S1 ∧ xB β n own0 m u S0 Mx Mw j S1) := by
  obtain ⟨g0, g1, nn, h1, h2⟩ := cX_tk hX hj
  exact ⟨fun e => take_T (d := d) hE h2 ha (by have := hX.2.1; omega) hK e, fun e => ⟨_, take_F (d := d) hE h2 hX.1 ha (by have := hX.2.1; omega) hf hK e, xB_0 hX hE hR _ rfl ha (by have := hX.2.1; omega)⟩⟩
/-- what is behind an expression: its state, told in short -/
theorem eOR_st {S S1 : cS} {c w t j g : Nat} {os : List Op} {q : Prop} (h : eOR β n V P own0 m u S0 S c w t j g os q S1) : rE own0 m u S0 (c + wR (qK β n) os) (w + nwN (qK β n) os) (t + ntN (qK β n) os) S1 ∧ sI S1 6115 = nI j ∧ sI S1 6116 = nI 0 := ⟨h.1, h.2.1, h.2.2.1⟩
theorem oR_1 {S : cS} {w t a tg x : Nat} (ht : tg = 25 ∧ x = 10 ∨ tg = 26 ∧ x = 9 ∨ tg = 39 ∧ x = 15) (h : cw S m a = nI x) : oR β n V P S m w t a (tg, [], 0, 0) := by
  refine ⟨fun e => ?_, fun e => ?_, fun e => ?_, fun e => ?_, fun e => ?_, fun e => ?_, fun e => ?_, fun e => ?_, fun e => ?_, fun e => ?_, fun e => ?_, fun e => ?_⟩
  all_goals dsimp only at e
  all_goals first | (exfalso; omega) | (rcases ht with ⟨h1, h2⟩ | ⟨h1, h2⟩ | ⟨h1, h2⟩ <;> first | (exfalso; omega) | (rw [h2] at h; exact h))
theorem oR_2 {S : cS} {w t a tg b x : Nat} (ht : tg = 51 ∧ x = 17 ∨ tg = 49 ∧ x = 18 ∨ tg = 50 ∧ x = 19) (h : cw S m a = nI x) (h2 : cw S m (a + 1) = nI b) : oR β n V P S m w t a (tg, [b], 0, 0) := by
  refine ⟨fun e => ?_, fun e => ?_, fun e => ?_, fun e => ?_, fun e => ?_, fun e => ?_, fun e => ?_, fun e => ?_, fun e => ?_, fun e => ?_, fun e => ?_, fun e => ?_⟩
  all_goals dsimp only at e
  all_goals first | (exfalso; omega) | skip
  · refine ⟨?_, h2⟩
    rw [h, show x = 17 by omega]
  · refine ⟨?_, h2⟩
    dsimp only
    rw [h]
    exact congrArg nI (by omega)
theorem oR_B {S : cS} {w t a tg b : Nat} (ht : 27 ≤ tg ∧ tg ≤ 38) (h : cw S m a = nI 8) (h2 : cw S m (a + 1) = nI (bsg b)) : oR β n V P S m w t a (tg, [b], 0, 0) := by
  refine ⟨fun e => ?_, fun e => ?_, fun e => ?_, fun e => ?_, fun e => ?_, fun e => ?_, fun e => ?_, fun e => ?_, fun e => ?_, fun e => ?_, fun e => ?_, fun e => ?_⟩
  all_goals dsimp only at e
  all_goals first | (exfalso; omega) | exact ⟨h, h2⟩
theorem oR_A {S : cS} {w t a b : Nat} (h : cw S m a = nI 16) (h2 : cw S m (a + 1) = V b) : oR β n V P S m w t a (44, [b], 0, 0) := by
  refine ⟨fun e => ?_, fun e => ?_, fun e => ?_, fun e => ?_, fun e => ?_, fun e => ?_, fun e => ?_, fun e => ?_, fun e => ?_, fun e => ?_, fun e => ?_, fun e => ?_⟩
  all_goals dsimp only at e
  all_goals first | (exfalso; omega) | exact ⟨h, h2⟩
theorem oR_N {S : cS} {w t a b tg : Nat} (ht : tg = 18 ∨ tg = 21) (h : cw S m a = nI (if tg = 21 then 5 else 4)) (h2 : cw S m (a + 1) = V b) (h3 : cw S m (a + 2) = (P (V b)).1) (h4 : cw S m (a + 3) = (P (V b)).2) : oR β n V P S m w t a (tg, [b], 0, 0) := by
  refine ⟨fun e => ?_, fun e => ?_, fun e => ?_, fun e => ?_, fun e => ?_, fun e => ?_, fun e => ?_, fun e => ?_, fun e => ?_, fun e => ?_, fun e => ?_, fun e => ?_⟩
  all_goals dsimp only at e
  all_goals first | (exfalso; omega) | exact ⟨h, h2, h3, h4⟩
end
