/-! STATEMENTS OF THE REFERENCE: sequences, blocks -/
def jmZ (z : Nat) : Nat := if z = 0 then 301 else 335
def umZ (z : Nat) : Nat := if z = 0 then 0 else 5
def tmZ (z : Nat) : Nat := if z = 0 then 1 else 4
def bmZ (z : Nat) : Nat := if z = 0 then 2 else 6
def upX (z v : Nat) (X : Nat → Nat) : Nat → Nat := fun i => if i = 6 ∧ z = 1 then v else X i
section
variable (β : Nat → Nat) (n : Nat) (E : Nat → Nat → Bool) (V : Nat → Int32) (T : Nat → Nat × Nat) (own0 : Nat → Nat × Nat) (m u k1 : Nat) (S0 : cS) (H B0 W : Nat)
/-- a statement (z 0), a class's (z 1) -/
def ZS (F z : Nat) : Prop := ∀ (opn : Nat → Nat) (dp ind s : Nat) (lp : LpT) (tr ca : Nat) (sc : SCs) (at' : List Nat) (X : Nat → Nat) (af c w t b k : Nat) (S : cS) (D : Nat), zIn β n E V T own0 m u k1 S0 H B0 W z opn dp ind s lp tr sc at' X af c w t b k S → qK β n k ≠ 1 → qI β n k = ind → 4 * rem β n k + 3 ≤ F → lvZ dp ≤ D → ∃ S1 v, Ans D (jmZ z) [.ref 61] S (some (.int v)) S1 ∧ zOu β n E V T own0 m u k1 S0 H B0 W z opn (dp + 1) ind lp sc at' X af S c w t b k (ps (qK β n) (qL β n) (qI β n) E F (umZ z) dp ind s lp tr ca c sc at' k) v S1
/-- the statements of a block, in the loop of block -/
def ZQ (F z : Nat) : Prop := ∀ (opn : Nat → Nat) (dp ind s : Nat) (lp : LpT) (tr ca : Nat) (sc : SCs) (at' : List Nat) (X : Nat → Nat) (af c w t b k : Nat) (S : cS) (d : Nat), 1 ≤ dp → zIn β n E V T own0 m u k1 S0 H B0 W z opn dp ind s lp tr sc at' X af c w t b k S → 4 * rem β n k + 4 ≤ F → lvZ dp ≤ d + 8 → ∃ S1 v, (∀ lv, sm_get lv 0 = some (.ref 61) → sm_get lv 2 = some (.int (nI z)) → sm_get lv 3 = some (.int (nI ind)) → Bod (d + 8) 334 89 lv [] S (some (.int v)) S1) ∧ ((∃ l, zBd β n opn dp (ps (qK β n) (qL β n) (qI β n) E F (tmZ z) dp ind s lp tr ca c sc at' k) l ∧ v = nI 0 ∧ zB own0 m u S0 H B0 W l S1) ∨ ∃ x S2, ps (qK β n) (qL β n) (qI β n) E F (tmZ z) dp ind s lp tr ca c sc at' k = .inr x ∧ v = nI 1 ∧ S1 = wI 6117 (nI (dp - 1)) S2 ∧ zG β n E V T own0 m u k1 S0 H B0 z ind lp sc at' X af S c w t b k x S2)
/-- a block -/
def ZB (F z : Nat) : Prop := ∀ (opn : Nat → Nat) (dp ind s : Nat) (lp : LpT) (tr ca : Nat) (sc : SCs) (at' : List Nat) (X : Nat → Nat) (af c w t b k : Nat) (S : cS) (D : Nat), zI0 β n E V T own0 m u k1 S0 H B0 W z opn dp ind s lp tr sc at' X af c w t b k S → qK β n k ≠ 1 → qI β n k = ind → 4 * rm β n k ≤ F → (qK β n k = 13 → qK β n (k + 1) = 2 → zRm β n H W (k + 2) c w t (sc.1.length - 1)) → lvZ dp ≤ D + 2 → ∃ S1 v, Ans D 334 [.ref 61, .int (nI ind), .int (nI z)] S (some (.int v)) S1 ∧ ((∃ l, zBd β n opn (dp + 1) (ps (qK β n) (qL β n) (qI β n) E F (bmZ z) (dp + 1) ind s lp tr ca c sc at' k) l ∧ v = nI 0 ∧ zB own0 m u S0 H B0 W l S1) ∨ ∃ x, ps (qK β n) (qL β n) (qI β n) E F (bmZ z) (dp + 1) ind s lp tr ca c sc at' k = .inr x ∧ v = nI 1 ∧ qK β n k = 13 ∧ qK β n (k + 1) = 2 ∧ ind < qI β n (k + 2) ∧ k + 2 < x.1 ∧ zG β n E V T own0 m u k1 S0 H B0 z (ind + 1) lp sc at' X af S c w t b (k + 2) x S1)
end
section
variable {β : Nat → Nat} {n : Nat} {E : Nat → Nat → Bool} {V : Nat → Int32} {T : Nat → Nat × Nat} {P : Nat → Int32 → Int32 × Int32} {own0 : Nat → Nat × Nat} {m u k1 : Nat} {S0 S S1 S2 : cS} {H B0 W d l c w t f f1 b j s : Nat} {X Y : Nat → Nat} {o1 o2 : List Op} {A : Prop}
theorem zO_wI {i : Nat} {x : Int32} (h : zO β n V P A own0 m u S0 H B0 X l S c w t f b j o1 f1 S1) (hi : i ∈ [6117, 6122, 6123, 6126, 6127, 6131, 6132, 6134, 6137, 6139, 6140]) : zO β n V P A own0 m u S0 H B0 X l S c w t f b j o1 f1 (wI i x S1) := by
  obtain ⟨h1, h2, h3, h4, h5, h6, h7, h8, h9⟩ := h
  simp only [List.mem_cons, List.not_mem_nil, or_false] at hi
  exact ⟨zE_wI h1 (by simp only [List.mem_cons, List.not_mem_nil, or_false]; omega), (rIn _ _ (by omega)).trans h2, (rIn _ _ (by omega)).trans h3, fun hq => lsS_mono (hi := c + wR (qK β n) o1) kR_wI (Nat.le_refl _) (Nat.le_refl _) o1 c h5 (Nat.le_refl _) (h4 hq), h5, h6, h7, h8, h9⟩
theorem q_end {k : Nat} (hX : zX β n V own0 m k1 S0) : (k ≤ k1 → qK β n k ≠ 1 → k + 1 ≤ k1) := fun h1 h2 => by
  rcases Nat.lt_or_ge k k1 with h | h
  · exact h
  · obtain rfl : k = k1 := by omega
    exact absurd hX.2.2.1 h2
theorem k_i {k : Nat} (hX : zX β n V own0 m k1 S0) : qI β n k ≤ 3000 := by
  have h1 := q_ind β n k
  have h2 := (q_lt β n k).1
  have := hX.1
  omega
theorem qL_lt {k : Nat} (hX : zX β n V own0 m k1 S0) : qL β n k < 2 ^ 20 := by
  have h1 := (q_lt β n k).2.2.1
  have := hX.1
  omega
theorem zbk_lt (K : Nat → Nat) : ∀ (os : List Op) (a p : Nat), p ∈ zbk K a os → a < p ∧ p < a + wR K os := by
  intro os
  induction os with
  | nil => intro a p h; cases h
  | cons o r ih =>
    intro a p h
    have e : wR K (o :: r) = lR K o + wR K r := rfl
    rcases List.mem_append.mp h with h | h
    · split at h
      · rename_i h6
        have := List.mem_singleton.mp h
        have := lR_60 (K := K) h6
        omega
      · cases h
    · have := ih _ _ h
      omega
theorem zbk_nd (K : Nat → Nat) : ∀ (os : List Op) (a : Nat), (zbk K a os).Nodup := by
  intro os
  induction os with
  | nil => intro a; exact List.nodup_nil
  | cons o r ih =>
    intro a
    show (_ ++ zbk K (a + lR K o) r).Nodup
    rw [List.nodup_append]
    refine ⟨?_, ih _, fun p hp q hq e => ?_⟩
    · split
      · exact List.nodup_cons.mpr ⟨(fun h => by cases h), List.nodup_nil⟩
      · exact List.nodup_nil
    · split at hp
      · rename_i h6
        have h1 := List.mem_singleton.mp hp
        have h2 := lR_60 (K := K) h6
        have := (zbk_lt K r _ q hq).1
        omega
      · cases hp
/-- behind a piece: at the next token of this level -/
theorem zI0_next {z dp ind tr af k : Nat} {opn : Nat → Nat} {lp : LpT} {sc : SCs} {at' : List Nat} {x : PT} (hX : zX β n V own0 m k1 S0) (h : zI0 β n E V T own0 m u k1 S0 H B0 W z opn dp ind s lp tr sc at' X af c w t b k S) (hw : w + nwN (qK β n) x.2.1 ≤ W) (ht : t + ntN (qK β n) x.2.1 ≤ W) (hf : x.2.2.1.1.length - 1 ≤ W) (hz : z = 0 ∨ z = 1) (hk : qK β n k ≠ 1) (hI : qI β n k = ind) (hk13 : qK β n k ≠ 13 ∨ qK β n (k - 1) = 2 ∨ k = 0) (g : zG β n E V T own0 m u k1 S0 H B0 z ind lp sc at' X af S c w t b k x S1) : zI0 β n E V T own0 m u k1 S0 H B0 W z opn dp ind s lp tr x.2.2.1 x.2.2.2 (upX z (af + x.2.2.2.length) X) af (c + wR (qK β n) x.2.1) (w + nwN (qK β n) x.2.1) (t + ntN (qK β n) x.2.1) (b + (zbk (qK β n) c x.2.1).length) x.1 S1 := by
  obtain ⟨h1, h2, h3, h4, h5, h6, h7, h8, h9, h10, h11, h12, h13⟩ := h
  obtain ⟨⟨o1, o2, o3, o4, o5, o6, o7, o8, o9⟩, g2, g3, g4, g5, g6, g7, g8, g9, g10, g11, g12, g13, g14, g15, g16⟩ := g
  obtain ⟨⟨l0, hl0⟩, hkp⟩ := id g16
  have hlen : sc.1.length ≤ x.2.2.1.1.length := by rw [hl0, List.length_append]; omega
  have hq := qP_le (β := β) (n := n) g15
  obtain ⟨⟨c01, c02, c03, c04, c05⟩, c1, ⟨c21, c22, c23⟩, c3, c4, c5, c6, ⟨c71, c72, c73, c74⟩, ⟨c81, c82⟩, c9, c10⟩ := id h4
  refine ⟨o1, o2, o3, zCt_go h4 (agT_L g16) g16 g2 o7 g3 (fun hz1 => ?_) (fun i hi => if_neg (fun e => hi e.1)) (fun hz0 => if_neg (fun e => by omega)) hz (Nat.le_add_right _ _) (fun i hi => ?_) (by omega) g15 (fun own st hr e1 e2 => ?_), g5, by omega, g13, fun hz1 => ?_, hw, ht, hf, h12, h13⟩
  · obtain ⟨a1, a2, a3⟩ := g4 hz1
    obtain ⟨e0, e1, e2⟩ := h8 hz1
    exact ⟨af + x.2.2.2.length, a1.1, by omega, by omega, if_pos ⟨rfl, hz1⟩⟩
  · by_cases hi2 : i < b
    · obtain ⟨y1, y2, e1, e2, e3, e4⟩ := c81 i hi2
      obtain ⟨f1, f2⟩ := o6.2.2 i hi2
      exact ⟨y1, y2, e1, e2, f2.trans e3, f1.trans e4⟩
    · obtain ⟨p, hp⟩ : ∃ p, (zbk (qK β n) c x.2.1)[i - b]? = some p := ⟨_, List.getElem?_eq_getElem (by omega)⟩
      obtain ⟨f1, f2⟩ := o9 (i - b) p hp
      rw [show b + (i - b) = i by omega] at f1 f2
      have hpc := (zbk_lt _ _ _ p (List.mem_of_getElem? hp)).2
      have hcH : c + wR (qK β n) x.2.1 ≤ H := (zE_g o1).choose_spec.choose_spec.2.2.2.2
      have hL1 : 1 ≤ X 2 := by
        rcases Nat.lt_or_ge 0 (X 2) with e | e
        · exact e
        · exfalso
          have hno : lp = none → False := fun e2 => by
            have := g6 e2
            rw [zbk_n _ _ _ this] at hp
            cases hp
          rcases hz with hz | hz
          · have := c23 hz
            cases lp with
            | none => exact hno rfl
            | some x =>
              have := this.1
              omega
          · exact hno (h8 hz).1
      exact ⟨X 2 - 1, p, by omega, by omega, f2, f1⟩
  · have hr0 := rgn_S (hr hk (by omega)) hk13
    refine rgn_go hr0 g15 (fun j j1 j2 => ?_)
    have hown := hr0.2 k hr0.1 (Nat.le_refl _)
    rcases Nat.lt_or_ge j x.1 with e | e
    · obtain ⟨e3, e4⟩ := g12 j j1 e
      exact ⟨by omega, e4⟩
    · obtain rfl : j = x.1 := by omega
      exact ⟨by omega, e1⟩
  · obtain ⟨a1, a2, a3⟩ := g4 hz1
    exact ⟨(h8 hz1).1, if_pos ⟨rfl, hz1⟩, a1⟩
/-- behind a statement the next can begin -/
theorem zIn_next {z dp ind tr af k : Nat} {opn : Nat → Nat} {lp : LpT} {sc : SCs} {at' : List Nat} {x : PT} (hX : zX β n V own0 m k1 S0) (h : zIn β n E V T own0 m u k1 S0 H B0 W z opn dp ind s lp tr sc at' X af c w t b k S) (hz : z = 0 ∨ z = 1) (hk : qK β n k ≠ 1) (hI : qI β n k = ind) (g : zG β n E V T own0 m u k1 S0 H B0 z ind lp sc at' X af S c w t b k x S1) (hlt : k < x.1) : zIn β n E V T own0 m u k1 S0 H B0 W z opn dp ind s lp tr x.2.2.1 x.2.2.2 (upX z (af + x.2.2.2.length) X) af (c + wR (qK β n) x.2.1) (w + nwN (qK β n) x.2.1) (t + ntN (qK β n) x.2.1) (b + (zbk (qK β n) c x.2.1).length) x.1 S1 := by
  obtain ⟨h0, ⟨r1, r2, r3, r4, r5, r6⟩, h14, hx1, hx2, hx3⟩ := h
  have hs := h0.2.2.2.2.2.1
  obtain ⟨-, -, -, -, -, -, g7, g8, g9, g10, -, -, -, g14, -, -⟩ := id g
  exact ⟨zI0_next hX h0 (by omega) (by omega) (by omega) hz hk hI (Or.inr h14) g, ⟨by omega, by omega, by omega, by omega, r5, r6⟩, Or.inl (g14 hlt), (by rw [show upX z (af + x.2.2.2.length) X 1 = X 1 from if_neg (fun e => absurd e.1 (by decide))]; exact hx1), (by rw [show upX z (af + x.2.2.2.length) X 2 = X 2 from if_neg (fun e => absurd e.1 (by decide))]; exact hx2), hx3⟩
end
