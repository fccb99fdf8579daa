/-! WHERE NAMES ARE, PURE: a piece of a text and the scopes -/
section
variable (β : Nat → Nat) (n k1 : Nat) (V : Nat → Int32)
/-- scope u's entries are what its function's lines tell -/
def gsc (sc : SCs) (u : Nat) : Prop := ∃ (e : Nat × Nat × Nat × Nat) (M : List (Bool × Nat)), sc.1[u]? = some e ∧ e.1 < u ∧ enS V sc u = M.foldl (evS V) ((prmL (qK β n) V 9 (e.2.2.2 + 2)).map fun x => (x, 1)) ∧ evOk V ((prmL (qK β n) V 9 (e.2.2.2 + 2)).map fun x => (x, 1)) M ∧ (prmL (qK β n) V 9 (e.2.2.2 + 2)).Nodup ∧ lcO (qK β n) (qI β n) V e.2.2.2 = M.foldl (evG V (prmL (qK β n) V 9 (e.2.2.2 + 2)).length) (M.foldl (evB V) (prmL (qK β n) V 9 (e.2.2.2 + 2)), [])
def zPre (sc : SCs) (s k : Nat) : Prop := enK (qK β n) sc ∧ wfS sc ∧ s < sc.1.length ∧ k ≤ k1 ∧ (s ≠ 0 → ((enS V sc s).map Prod.fst).Nodup)
/-- act: the lines are scanned for s, else they tell s nothing -/
def zRs (act : Bool) (k0 lo s : Nat) (sc : SCs) (x : PT) : Prop := (∃ l, x.2.2.1.1 = sc.1 ++ l) ∧ (∀ s', s' < sc.1.length → s' ≠ s → enT x.2.2.1 s' = enT sc s') ∧ (∀ u, sc.1.length ≤ u → u < x.2.2.1.1.length → gsc β n V x.2.2.1 u) ∧ ((∀ j, k0 ≤ j → j < x.1 → lo ≤ qI β n j ∧ qK β n j ≠ 1) ∧ (k0 < x.1 → qK β n (x.1 - 1) = 2) ∧ k0 ≤ x.1) ∧ zPre β n k1 V x.2.2.1 s x.1 ∧ (act = true → s ≠ 0 → ∀ own, own < lo → zV β n k1 V own k0 x.1 (enS V sc s) (enS V x.2.2.1 s)) ∧ (act = false → enT x.2.2.1 s = enT sc s)
end
section
variable {β : Nat → Nat} {n k1 : Nat} {V : Nat → Int32} {E : Nat → Nat → Bool} {act : Bool} {k0 lo s k : Nat} {sc sc1 : SCs} {at' : List Nat} {x y : PT}
theorem gsc_mono {u : Nat} {l : List (Nat × Nat × Nat × Nat)} (h : gsc β n V sc u) (h1 : sc1.1 = sc.1 ++ l) (h2 : enT sc1 u = enT sc u) : gsc β n V sc1 u := by
  obtain ⟨e, M, a1, a2, a3, a4⟩ := h
  refine ⟨e, M, ?_, a2, ?_, a4⟩
  · rw [h1, List.getElem?_append_left (List.getElem?_eq_some_iff.mp a1).1]; exact a1
  · unfold enS
    rw [h2]
    exact a3
theorem zRs_lo {lo' : Nat} (h : zRs β n k1 V act k0 lo' s sc x) (hl : lo ≤ lo') : zRs β n k1 V act k0 lo s sc x := by
  obtain ⟨a1, a2, a3, ⟨a4, a5, a6⟩, a7, a8, a9⟩ := h
  exact ⟨a1, a2, a3, ⟨fun j j1 j2 => ⟨Nat.le_trans hl (a4 j j1 j2).1, (a4 j j1 j2).2⟩, a5, a6⟩, a7, fun h1 h2 own ho => a8 h1 h2 own (by omega), a9⟩
theorem zRs_os (h : zRs β n k1 V act k0 lo s sc x) (os : List Op) (at1 : List Nat) : zRs β n k1 V act k0 lo s sc (x.1, os, x.2.2.1, at1) := h
theorem zRs_0 (hZ : zTk β n k1) (P : zPre β n k1 V sc s k) : zRs β n k1 V act k lo s sc (k, [], sc, at') := ⟨⟨[], (List.append_nil _).symm⟩, fun _ _ _ => rfl, fun u h1 h2 => absurd (show u < sc.1.length from h2) (by omega), ⟨fun j j1 j2 => absurd (show j < k from j2) (by omega), fun h => absurd h (Nat.lt_irrefl _), Nat.le_refl _⟩, P, fun _ _ _ _ => zV_refl hZ P.2.2.2.1, fun _ => rfl⟩
theorem zRs_app (hs : s < sc.1.length) (h : zRs β n k1 V act k0 lo s sc x) (g : zRs β n k1 V act x.1 lo s x.2.2.1 y) : zRs β n k1 V act k0 lo s sc y := by
  obtain ⟨⟨l, a1⟩, a2, a3, ⟨a4, a5, a6⟩, a7, a8, a9⟩ := h
  obtain ⟨⟨l2, b1⟩, b2, b3, ⟨b4, b5, b6⟩, b7, b8, b9⟩ := g
  have hl : sc.1.length ≤ x.2.2.1.1.length := by rw [a1, List.length_append]; omega
  refine ⟨⟨l ++ l2, by rw [b1, a1, List.append_assoc]⟩, fun s' h1 h2 => (b2 s' (by omega) h2).trans (a2 s' h1 h2), fun u h1 h2 => ?_, ⟨fun j j1 j2 => ?_, fun h => ?_, by omega⟩, b7, fun h1 h2 own ho => zV_trans (a8 h1 h2 own ho) (b8 h1 h2 own ho), fun h => (b9 h).trans (a9 h)⟩
  · rcases Nat.lt_or_ge u x.2.2.1.1.length with q | q
    · exact gsc_mono (a3 u h1 q) b1 (b2 u q (by omega))
    · exact b3 u q h2
  · rcases Nat.lt_or_ge j x.1 with q | q
    · exact a4 j j1 q
    · exact b4 j q j2
  · rcases Nat.lt_or_ge x.1 y.1 with q | q
    · exact b5 q
    · have e : x.1 = y.1 := by omega
      rw [← e]
      exact a5 (by omega)
/-- a line -/
theorem lz_tk {q : Nat} (hkq : k ≤ q) (h2 : qK β n q = 2) (hq : ∀ j, k ≤ j → j < q → 3 ≤ qK β n j) (hI : lo ≤ qI β n k) : ∀ j, k ≤ j → j < q + 1 → lo ≤ qI β n j ∧ qK β n j ≠ 1 := fun j j1 j2 => by
  obtain ⟨y1, y2, y3, y4⟩ := rm_run (β := β) (n := n) (k := k) (k1 := j) j1 (fun i i1 i2 => hq i i1 (by omega))
  refine ⟨by omega, fun e => ?_⟩
  rcases Nat.lt_or_ge j q with z | z
  · have := hq j j1 z
    omega
  · obtain rfl : j = q := by omega
    omega
theorem q_lt1 (hZ : zTk β n k1) {q : Nat} (hk : k ≤ k1) (hkq : k ≤ q) (h2 : qK β n q = 2) (hq : ∀ j, k ≤ j → j < q → 3 ≤ qK β n j) : q < k1 := by
  rcases Nat.lt_or_ge q k1 with h | h
  · exact h
  · rcases Nat.eq_or_lt_of_le h with e | e
    · have := hZ.2.1
      rw [e] at this
      omega
    · have := hq k1 hk e
      have := hZ.2.1
      omega
/-- that tells nothing -/
theorem zRs_l0 (hZ : zTk β n k1) (P : zPre β n k1 V sc s k) {q : Nat} (hkq : k ≤ q) (h2 : qK β n q = 2) (hq : ∀ j, k ≤ j → j < q → 3 ≤ qK β n j) (hI : lo ≤ qI β n k) (os : List Op) (hb : act = true → lnS (qK β n) (qI β n) k = none ∧ (∀ B, lnB (qK β n) V k B = B) ∧ qK β n k ≠ 53) : zRs β n k1 V act k lo s sc (q + 1, os, sc, at') := by
  obtain ⟨p1, p2, p3, p4, p5⟩ := P
  have hq1 := q_lt1 hZ p4 hkq h2 hq
  refine ⟨⟨[], (List.append_nil _).symm⟩, fun _ _ _ => rfl, fun u h1 h2 => absurd (show u < sc.1.length from h2) (by omega), ⟨lz_tk hkq h2 hq hI, fun _ => h2, by dsimp only; omega⟩, ⟨p1, p2, p3, hq1, p5⟩, fun h1 h3 own ho => ?_, fun _ => rfl⟩
  obtain ⟨b1, b2, b3⟩ := hb h1
  exact zV_ln hZ [] hkq h2 hq hq1 (by omega) b1 rfl trivial b2 (fun p lo => if_neg b3)
/-- entries that are bound, told global: others stay -/
theorem wfS_B {j : Nat} (hw : wfS sc) (hs : s < sc.1.length) : wfS (scB E s j sc) := by
  unfold scB
  split
  · exact hw
  · cases scF E sc s j with
    | none => exact wfS_A hs hw
    | some e => exact hw
theorem zRs_l1 (hZ : zTk β n k1) (hE : eqV E (qK β n) V) (P : zPre β n k1 V sc s k) {q j : Nat} (hkq : k ≤ q) (h2 : qK β n q = 2) (hq : ∀ j, k ≤ j → j < q → 3 ≤ qK β n j) (hI : lo ≤ qI β n k) (os : List Op) (hj : qK β n j = 3) (hb : lnS (qK β n) (qI β n) k = none ∧ (∀ B, lnB (qK β n) V k B = bindH B (V j)) ∧ qK β n k ≠ 53) : zRs β n k1 V true k lo s sc (q + 1, os, scB E s j sc, at') := by
  obtain ⟨p1, p2, p3, p4, p5⟩ := P
  have hq1 := q_lt1 hZ p4 hkq h2 hq
  obtain ⟨l1, l2, l3⟩ := scB_l E s j sc
  have hw := wfS_B (E := E) (j := j) p2 p3
  by_cases hs : s = 0
  · have e : scB E s j sc = sc := if_pos hs
    rw [e]
    exact ⟨⟨[], (List.append_nil _).symm⟩, fun _ _ _ => rfl, fun u h1 h2 => absurd (show u < sc.1.length from h2) (by omega), ⟨lz_tk hkq h2 hq hI, fun _ => h2, by dsimp only; omega⟩, ⟨p1, p2, p3, hq1, p5⟩, fun _ h => absurd hs h, fun _ => rfl⟩
  · obtain ⟨e1, e2, e3⟩ := scB_ev hE p1 hj hs
    refine ⟨⟨[], by rw [List.append_nil]; exact l1⟩, fun s' _ h => e2 s' h, fun u h1 h2 => absurd (show u < (scB E s j sc).1.length from h2) (by rw [l1]; omega), ⟨lz_tk hkq h2 hq hI, fun _ => h2, by dsimp only; omega⟩, ⟨e3, hw, by dsimp only; rw [l1]; exact p3, hq1, fun _ => ?_⟩, fun h1 h3 own ho => ?_, fun h => by cases h⟩
    · dsimp only
      rw [e1]
      exact evS_nd (p5 hs)
    · obtain ⟨b1, b2, b3⟩ := hb
      exact zV_ln hZ [(false, j)] hkq h2 hq hq1 (by omega) b1 e1 ⟨(fun h => by cases h), trivial⟩ b2 (fun p lo => if_neg b3)
end
