/-! STATEMENTS OF THE REFERENCE: a loop's breaks are told; what a statement comes to behind its first step -/
theorem rsv_n (K : Nat → Nat) (ce re : Nat) : ∀ (a : List Op) (c r : Nat), n60 a → rsv K ce re c r a = a := by
  intro a
  induction a with
  | nil => intro c r _; rfl
  | cons o l ih =>
    intro c r h
    show (if o.1 = 60 then _ else o) :: rsv K ce re (c + lC o) (r + lR K o) l = o :: l
    rw [if_neg (h o (List.mem_cons_self ..)), ih _ _ (fun q hq => h q (List.mem_cons_of_mem _ hq))]
theorem rsv_60 (K : Nat → Nat) (ce re : Nat) : ∀ (a : List Op) (c r : Nat), n60 (rsv K ce re c r a) := by
  intro a
  induction a with
  | nil => intro c r o ho; cases ho
  | cons o l ih =>
    intro c r q hq
    rcases List.mem_cons.mp hq with e | e
    · rw [e]
      split
      · exact show (4 : Nat) ≠ 60 by decide
      · assumption
    · exact ih _ _ q e
theorem rsv_23 (K : Nat → Nat) (ce re : Nat) : ∀ (a : List Op) (c r : Nat), w23 a → w23 (rsv K ce re c r a) := by
  intro a
  induction a with
  | nil => intro c r _ o ho; cases ho
  | cons o l ih =>
    intro c r h q hq
    rcases List.mem_cons.mp hq with e | e
    · rw [e]
      split
      · exact fun e => by cases e
      · exact h o (List.mem_cons_self ..)
    · exact ih _ _ (fun p hp => h p (List.mem_cons_of_mem _ hp)) q e
theorem rsv_nt (K : Nat → Nat) (ce re : Nat) : ∀ (a : List Op) (c r : Nat), nwN K (rsv K ce re c r a) = nwN K a ∧ ntN K (rsv K ce re c r a) = ntN K a := by
  intro a
  induction a with
  | nil => intro c r; exact ⟨rfl, rfl⟩
  | cons o l ih =>
    intro c r
    obtain ⟨e1, e2⟩ := ih (c + lC o) (r + lR K o)
    have e3 : nwO K (if o.1 = 60 then (4, [], (ce : Int) - c, (re : Int) - (r + 1)) else o) = nwO K o ∧ ntO K (if o.1 = 60 then (4, [], (ce : Int) - c, (re : Int) - (r + 1)) else o) = ntO K o := by
      split
      · rename_i h6
        unfold nwO ntO
        rw [if_neg (fun q => absurd (show (4 : Nat) = 16 from q.1) (by decide)), if_neg (fun q => by omega), if_neg (fun q => absurd (show (4 : Nat) = 16 from q.1) (by decide)), if_neg (fun q => by omega)]
        exact ⟨rfl, rfl⟩
      · exact ⟨rfl, rfl⟩
    constructor
    · show nwO K _ + nwN K (rsv K ce re (c + lC o) (r + lR K o) l) = nwO K o + nwN K l
      rw [e3.1, e1]
    · show ntO K _ + ntN K (rsv K ce re (c + lC o) (r + lR K o) l) = ntO K o + ntN K l
      rw [e3.2, e2]
theorem wdS_4 {V : Nat → Int32} {P : Nat → Int32 → Int32 × Int32} {x z : Int} : wdS V P (4, [], x, z) = [nI 11, jI z] := rfl
theorem lsS_rsv {β : Nat → Nat} {n : Nat} {V : Nat → Int32} {P : Nat → Int32 → Int32 × Int32} {S S1 : cS} {m w t ce re : Nat} (hW : ∀ i, i < w → cWh S1 m i = cWh S m i) (hT : ∀ i, i < t → cFi S1 m i = cFi S m i ∧ cSe S1 m i = cSe S m i) : ∀ (os : List Op) (cc a : Nat), w23 os → a + wR (qK β n) os ≤ re → (∀ p, p ∈ zbk (qK β n) a os → cw S1 m p = nI (re - p)) → (∀ i, a ≤ i → i < a + wR (qK β n) os → i ∉ zbk (qK β n) a os → cw S1 m i = cw S m i) → lsS β n V P S m w t a os → lsS β n V P S1 m w t a (rsv (qK β n) ce re cc a os) := by
  intro os
  induction os with
  | nil => intro cc a _ _ _ _ _; trivial
  | cons o r ih =>
    intro cc a h23 hre hp hc h
    have e : wR (qK β n) (o :: r) = lR (qK β n) o + wR (qK β n) r := rfl
    have ez : zbk (qK β n) a (o :: r) = (if o.1 = 60 then [a + 1] else []) ++ zbk (qK β n) (a + lR (qK β n) o) r := rfl
    have hr : ∀ p, p ∈ zbk (qK β n) (a + lR (qK β n) o) r → a + lR (qK β n) o < p := fun p hp => (zbk_lt _ _ _ p hp).1
    have hl : lR (qK β n) (if o.1 = 60 then (4, [], (ce : Int) - cc, (re : Int) - (a + 1)) else o) = lR (qK β n) o := by
      split
      · rename_i h6
        rw [lR_60 h6]
        rfl
      · rfl
    refine ⟨?_, ?_⟩
    · split
      · rename_i h6
        have l6 := lR_60 (K := qK β n) h6
        refine ⟨?_, fun q => absurd (show (4 : Nat) = 16 from q) (by decide), fun q => absurd (show (4 : Nat) = 16 from q) (by decide), fun q => absurd (show (4 : Nat) = 16 from q) (by decide)⟩
        rw [wdS_4]
        refine two_w ?_ ?_
        · rw [hc a (Nat.le_refl _) (by omega) (fun q => ?_)]
          · have := h.1.1 0 (nI 11) (by
              unfold wdS
              rw [h6]
              rfl)
            exact this
          · rw [ez, if_pos h6] at q
            rcases List.mem_append.mp q with q | q
            · have := List.mem_singleton.mp q
              omega
            · have := hr a q
              omega
        · rw [hp (a + 1) (by rw [ez, if_pos h6]; exact List.mem_append.mpr (Or.inl (List.mem_singleton.mpr rfl)))]
          show Int32.ofInt ((re - (a + 1) : Nat) : Int) = Int32.ofInt ((re : Int) - (a + 1))
          congr 1
          omega
      · rename_i h6
        refine oS_mv (h23 o (List.mem_cons_self ..)) (fun i hi => hc _ (by omega) (by omega) (fun q => ?_)) hW hT (Nat.le_refl _) (Nat.le_refl _) h.1
        rw [ez, if_neg h6] at q
        have := hr _ q
        omega
    · show lsS β n V P S1 m w t (a + lR (qK β n) (if o.1 = 60 then (4, [], (ce : Int) - cc, (re : Int) - (a + 1)) else o)) (rsv (qK β n) ce re (cc + lC o) (a + lR (qK β n) o) r)
      rw [hl]
      refine ih _ _ (fun q hq => h23 q (List.mem_cons_of_mem _ hq)) (by omega) (fun p hp' => hp p (by rw [ez]; exact List.mem_append.mpr (Or.inr hp'))) (fun i h1 h2 h3 => hc i (by omega) (by omega) (fun q => ?_)) h.2
      rw [ez] at q
      rcases List.mem_append.mp q with q | q
      · split at q
        · rename_i h6
          have := List.mem_singleton.mp q
          have := lR_60 (K := qK β n) h6
          omega
        · cases q
      · exact h3 q
section
variable {β : Nat → Nat} {n : Nat} {E : Nat → Nat → Bool} {V : Nat → Int32} {T : Nat → Nat × Nat} {P : Nat → Int32 → Int32 × Int32} {own0 : Nat → Nat × Nat} {m u k1 : Nat} {S0 S S1 S2 : cS} {H B0 W d l c w t f f1 b j s : Nat} {X Y : Nat → Nat} {o1 o2 : List Op} {A : Prop}
/-- a loop's end -/
theorem zO_end {L : Nat} {os : List Op} {ce cc l2 : Nat} (hX : zX β n V own0 m k1 S0) (h : zO β n V P A own0 m u S0 H B0 X L S c w t f b j os f1 S1) (hH : H ≤ 40000) (hLM : L + 1 < 30) (hb : b + (zbk (qK β n) c os).length < 3000) (hL : sI S1 6126 = nI (L + 1)) (hlo : ∀ i, i < b → ∃ x y, x < L ∧ y < 2 ^ 17 ∧ bkL S i = nI x ∧ bkA S i = nI y) : ∃ S2, Ans (d + 9) 344 [.ref 61] S1 none S2 ∧ zO β n V P A own0 m u S0 H B0 X l2 S c w t f b j (rsv (qK β n) ce (c + wR (qK β n) os) cc c os) f1 S2 ∧ sI S2 6126 = nI L ∧ (∀ i, i ≠ 6126 → i ≠ 6130 → i < 10800 → sI S2 i = sI S1 i) ∧ (∀ i, i < f1 → dNm S2 m i = dNm S1 m i ∧ dAt S2 m i = dAt S1 m i ∧ dPa S2 m i = dPa S1 m i ∧ dLo S2 m i = dLo S1 m i) ∧ ∀ a, 67 ≤ a → a < 108 → a ≠ 79 → a ≠ 80 → sA S2 a = sA S1 a := by
  obtain ⟨h1, h2, h3, h4, h5, h6, h7, h8, h9⟩ := h
  obtain ⟨S2, hA, y1, y2, y3, y4, y5, y6, y7, y8, y9, y10, y11, y12, y13⟩ := z_end (d := d) (L := L) (b0 := b) (ps := zbk (qK β n) c os) hX hLM hb hH h1 hL (fun i hi => by
    obtain ⟨x, y, e1, e2, e3, e4⟩ := hlo i hi
    obtain ⟨f1, f2⟩ := h6.2.2 i hi
    exact ⟨x, y, e1, e2, f2.trans e3, f1.trans e4⟩) (fun q p hq => by
    obtain ⟨e1, e2⟩ := h9 q p hq
    exact ⟨e1, e2, (zbk_lt _ _ _ p (List.mem_of_getElem? hq)).2⟩) (zbk_nd _ _ _)
  have e60 := rsv_60 (qK β n) ce (c + wR (qK β n) os) os cc c
  have eW := (rsv_w (K := qK β n) (ce := ce) (re := c + wR (qK β n) os) os cc c).2.1
  obtain ⟨eN, eT⟩ := rsv_nt (qK β n) ce (c + wR (qK β n) os) os cc c
  refine ⟨S2, hA, ?_, y2, y3, fun i _ => ⟨congrFun y8 i, congrFun y9 i, congrFun y10 i, congrFun y11 i⟩, y7⟩
  unfold zO
  rw [eW, eN, eT, zbk_n _ _ _ e60]
  refine ⟨y1, (y3 _ (by decide) (by decide) (by decide)).trans h2, (y3 _ (by decide) (by decide) (by decide)).trans h3, fun hq => lsS_rsv y4.2.1 y4.2.2 os cc c h5 (Nat.le_refl _) y6 (fun i _ _ h => y5 i h) (h4 hq), rsv_23 _ _ _ _ _ _ h5, kW_trans h6 (b1 := b) (f1 := f1) ⟨⟨fun i hi => ?_, y4.2.1, y4.2.2⟩, fun i _ => ⟨congrFun y8 i, congrFun y9 i, congrFun y10 i, congrFun y11 i⟩, fun i _ => ⟨congrFun y12 i, congrFun y13 i⟩⟩ (Nat.le_refl c) (Nat.le_add_right _ _) (Nat.le_add_right _ _) h8 (Nat.le_refl _), kA_trans h7 (kA_eq (fun a ha => y7 a ?_ ?_ ?_ ?_)), h8, fun i p hp => by cases hp⟩
  · exact y5 i (fun q => by
      have := (zbk_lt _ _ _ i q).1
      omega)
  all_goals
    simp only [List.mem_cons, List.not_mem_nil, or_false] at ha
    omega
end
section
variable (β : Nat → Nat) (n : Nat) (E : Nat → Nat → Bool) (V : Nat → Int32) (T : Nat → Nat × Nat) (own0 : Nat → Nat × Nat) (m u k1 : Nat) (S0 : cS) (H B0 W : Nat)
/-- behind a statement's first step -/
def zIs (z : Nat) (opn : Nat → Nat) (dp ind s : Nat) (lp : LpT) (tr : Nat) (sc : SCs) (at' : List Nat) (X : Nat → Nat) (af c w t b k : Nat) (S : cS) : Prop :=
  zI0 β n E V T own0 m u k1 S0 H B0 W z opn dp ind s lp tr sc at' X af c w t b k S ∧ (c + 13 * rem β n k ≤ H + 2 ∧ w + rem β n k ≤ W ∧ t + rem β n k ≤ W ∧ sc.1.length - 1 + rem β n k ≤ W) ∧ (qK β n (k - 1) = 2 ∨ k = 0) ∧ qK β n k ≠ 1 ∧ qI β n k = ind ∧ X 1 ≤ dp ∧ X 2 ≤ dp ∧ (z = 0 → tr ≤ dp)
def zOs (z : Nat) (opn : Nat → Nat) (dp ind : Nat) (lp : LpT) (sc : SCs) (at' : List Nat) (X : Nat → Nat) (af : Nat) (S : cS) (c w t b k : Nat) (r : PSr) (v : Int32) (S1 : cS) : Prop :=
  (∃ l, zBd β n opn dp r l ∧ v = nI 0 ∧ zB own0 m u S0 H B0 W l S1) ∨ ∃ x, r = .inr x ∧ v = nI 1 ∧ zG β n E V T own0 m u k1 S0 H B0 z ind lp sc at' X af S c w t b k x S1 ∧ wR (qK β n) x.2.1 + 2 + 13 * rem β n x.1 ≤ 13 * rem β n k
end
