/-! STATEMENTS OF THE REFERENCE: def: the names of the function that is told -/
theorem bindH_a (l : List Int32) (x : Int32) : ∃ r, bindH l x = l ++ r := by
  unfold bindH
  split
  · exact ⟨[], (List.append_nil _).symm⟩
  · exact ⟨[x], rfl⟩
theorem lnB_a (K : Nat → Nat) (V : Nat → Int32) (k : Nat) (l : List Int32) : ∃ r, lnB K V k l = l ++ r := by
  unfold lnB
  split
  · exact bindH_a _ _
  · split
    · exact bindH_a _ _
    · exact ⟨[], (List.append_nil _).symm⟩
theorem scn1_a (K I : Nat → Nat) (V : Nat → Int32) (ow : Nat) : ∀ (f k : Nat) (sk : Option Nat) (l : List Int32), ∃ r, scn1 K I V ow f k sk l = l ++ r := by
  intro f
  induction f with
  | zero => intro k sk l; exact ⟨[], (List.append_nil _).symm⟩
  | succ f ih =>
    intro k sk l
    unfold scn1
    split
    · exact ⟨[], (List.append_nil _).symm⟩
    · split
      · exact ih _ _ _
      · obtain ⟨r1, h1⟩ := lnB_a K V k l
        obtain ⟨r2, h2⟩ := ih (nxK K 6001 k) (lnS K I k) (lnB K V k l)
        exact ⟨r1 ++ r2, by rw [h2, h1, List.append_assoc]⟩
/-- the first p stay -/
def kpT (p : Nat) (l2 l : List Int32) : Prop := p ≤ l.length ∧ l.take p = l2
theorem erH_t {p : Nat} {l2 l : List Int32} {x : Int32} (h : kpT p l2 l) : kpT p l2 (erH p l x) := by
  obtain ⟨h1, h2⟩ := h
  unfold erH
  cases hx : l.findIdx? (fun y => y == x) with
  | none => exact ⟨h1, h2⟩
  | some i =>
    have hi : i < l.length := by
      rw [List.findIdx?_eq_some_iff_getElem] at hx
      exact hx.1
    dsimp only
    by_cases hip : i < p
    · rw [if_pos hip]; exact ⟨h1, h2⟩
    · rw [if_neg hip]
      refine ⟨by rw [List.length_eraseIdx, if_pos hi]; omega, ?_⟩
      rw [← h2]
      apply List.ext_getElem?
      intro j
      rw [List.getElem?_take, List.getElem?_take]
      by_cases hj : j < p
      · rw [if_pos hj, if_pos hj, List.getElem?_eraseIdx, if_pos (by omega)]
      · rw [if_neg hj, if_neg hj]
theorem scnG_t (K : Nat → Nat) (V : Nat → Int32) {p : Nat} {l2 : List Int32} : ∀ (f j : Nat) (lo : List Int32 × List Int32), kpT p l2 lo.1 → kpT p l2 (scnG K V p f j lo).1 := by
  intro f
  induction f with
  | zero => intro j lo h; exact h
  | succ f ih =>
    intro j lo h
    unfold scnG
    split
    · exact h
    · apply ih
      split
      · exact erH_t h
      · exact h
theorem scn2_t (K I : Nat → Nat) (V : Nat → Int32) (ow : Nat) {p : Nat} {l2 : List Int32} : ∀ (f k : Nat) (sk : Option Nat) (lo : List Int32 × List Int32), kpT p l2 lo.1 → kpT p l2 (scn2 K I V ow p f k sk lo).1 := by
  intro f
  induction f with
  | zero => intro k sk lo h; exact h
  | succ f ih =>
    intro k sk lo h
    unfold scn2
    split
    · exact h
    · split
      · exact ih _ _ _ h
      · apply ih
        split
        · exact scnG_t K V _ _ _ h
        · exact h
theorem kpT_a (l r : List Int32) : kpT l.length l (l ++ r) := ⟨by rw [List.length_append]; exact Nat.le_add_right _ _, List.take_left ..⟩
section
variable {β : Nat → Nat} {n : Nat} {E : Nat → Nat → Bool} {V : Nat → Int32} {T : Nat → Nat × Nat} {own0 : Nat → Nat × Nat} {m u k1 : Nat} {S0 Sb S S1 S2 : cS} {H B0 W d c w t f b F s : Nat} {X : Nat → Nat}
/-- what the names of the function at k take -/
theorem df_cnt {k k2 ind U : Nat} {l2 : List Int32} (h : zTk β n k1) (hk : k < k1) (hK : qK β n k = 46) (hI : qI β n k = ind) (h13 : 6 ≤ qK β n k2) (hnl : qK β n (k2 + 1) = 2) (htk : ∀ j, k ≤ j → j < k2 → 3 ≤ qK β n j) (hkk : k + 4 + 2 * l2.length ≤ k2 + 1) (hk21 : k2 + 1 < k1) (hU : U + (enR (qK β n) (qI β n) (qI β n k) 6001 (nxK (qK β n) 6001 k) - k) ≤ 6000) : ∃ C, (scn1 (qK β n) (qI β n) V ind 6001 (k2 + 2) none l2).length ≤ C ∧ (scn2 (qK β n) (qI β n) V ind l2.length 6001 (k2 + 2) none (scn1 (qK β n) (qI β n) V ind 6001 (k2 + 2) none l2, [])).2.length ≤ C ∧ U + C + 3 ≤ 6000 ∧ ∀ k', qK β n k' = 46 → (qK β n (k' - 1) = 2 ∨ k' = 0) → rgS (qK β n) (qI β n) ind (k2 + 2) k' → U + C + (enR (qK β n) (qI β n) (qI β n k') 6001 (nxK (qK β n) 6001 k') - k') ≤ 6000 := by
  obtain ⟨r, r1, r2, r3, r4, r5⟩ := nx_1 h (Nat.le_of_lt hk) (by omega)
  have hr : r = k2 + 1 := by
    rcases Nat.lt_trichotomy r (k2 + 1) with e | e | e
    · exfalso
      rcases Nat.lt_or_ge r k2 with e2 | e2
      · have := htk r r1 e2
        omega
      · obtain rfl : r = k2 := by omega
        omega
    · exact e
    · exact absurd hnl (r4 (k2 + 1) (by omega) e).1
  rw [r5, hr, hI] at hU
  have h2 := q_22 hnl
  have k6 := h.1
  have A1 := scn1_A (V := V) h ind 6001 (k2 + 2) none l2 (by omega)
  obtain ⟨N1, hN1⟩ : ∃ N1, N1 = scn1 (qK β n) (qI β n) V ind 6001 (k2 + 2) none l2 := ⟨_, rfl⟩
  have A2 := scn2_A (V := V) h ind l2.length 6001 (k2 + 2) none (N1, []) (by omega) h2
  have hC := hU
  have hU' : U + (enR (qK β n) (qI β n) ind 6001 (k2 + 2) - k) ≤ 6000 := hU
  rw [← hN1] at A1 ⊢
  have A2' : (scn2 (qK β n) (qI β n) V ind l2.length 6001 (k2 + 2) none (N1, [])).2.length + (k2 + 2) ≤ 0 + enR (qK β n) (qI β n) ind 6001 (k2 + 2) := A2
  obtain ⟨O1, hO1⟩ : ∃ O1, O1 = (scn2 (qK β n) (qI β n) V ind l2.length 6001 (k2 + 2) none (N1, [])).2 := ⟨_, rfl⟩
  rw [← hO1] at A2' ⊢
  refine ⟨max N1.length O1.length, Nat.le_max_left _ _, Nat.le_max_right _ _, ?_, fun k' hk' hl' hr' => ?_⟩
  · rcases Nat.le_total N1.length O1.length with e | e
    · rw [Nat.max_eq_right e]; omega
    · rw [Nat.max_eq_left e]; omega
  · have hk1' : k' ≤ k1 := by
      rcases Nat.lt_or_ge k1 k' with e | e
      · exact absurd h.2.1 (hr'.2 k1 (by omega) (by omega)).2
      · exact e
    have B1 := scn1_B (V := V) (ow := ind) h hk' hl' hk1' 6001 (k2 + 2) none l2 hr'.1 hr'.2 (by omega)
    have B2 := scn2_B (V := V) (ow := ind) (p := l2.length) h hk' hl' hk1' 6001 (k2 + 2) none (N1, []) hr'.1 h2 hr'.2 (by omega)
    rw [← hN1] at B1
    rw [← hO1] at B2
    have B2' : O1.length + (k2 + 2) + (enR (qK β n) (qI β n) (qI β n k') 6001 (nxK (qK β n) 6001 k') - k') ≤ 0 + enR (qK β n) (qI β n) ind 6001 (k2 + 2) := B2
    rcases Nat.le_total N1.length O1.length with e | e
    · rw [Nat.max_eq_right e]; omega
    · rw [Nat.max_eq_left e]; omega
/-- the scopes as the block of the function at k begins -/
theorem zSc_df {A A' : Prop} {sc sc2 : SCs} {nl no ind k k2 ca ra : Nat} {l2 : List Int32} {S' : cS} (hX : zX β n V own0 m k1 S0) (h : zSc (qK β n) (qI β n) E V T A sc s F nl no ind k S) (hs : s < sc.1.length) (hk : k < k1) (hK : qK β n k = 46) (hls : qK β n (k - 1) = 2 ∨ k = 0) (hI : qI β n k = ind) (h13 : qK β n k2 = 13) (hnl : qK β n (k2 + 1) = 2) (h7 : qK β n (k2 - 1) = 7) (hI2 : qI β n k2 = ind) (hI1 : qI β n (k + 1) = ind) (htk : ∀ j, k ≤ j → j < k2 → 3 ≤ qK β n j) (hkk : k + 4 + 2 * l2.length ≤ k2 + 1) (hk21 : k2 + 1 < k1) (hl2 : l2 = prmL (qK β n) V 9 (k + 3)) (hhd : k2 = hdE (qK β n) V (k + 1)) (hA : A' → A) (hT : A' → T sc.1.length = (s, k + 1)) (hR : scR1 E (qK β n) V sc.1.length l2 sc2) (hO : scO E sc.1.length (sc.1 ++ [(s, ca, ra, k + 1)], sc.2) sc2) (e75 : ∀ i, sA S' 75 i = if i = F + 1 then nI nl else sA S 75 i) (e83 : ∀ i, sA S' 83 i = if i = F + 1 then nI no else sA S 83 i) (e76 : ∀ i, sA S' 76 i = if i = F + 1 then nI l2.length else sA S 76 i) (e74 : ∀ i, i < nl → sA S' 74 i = sA S 74 i) (e82 : ∀ i, i < no → sA S' 82 i = sA S 82 i) (hL : ∀ i y, (lcO (qK β n) (qI β n) V (k + 1)).1[i]? = some y → sA S' 74 (nl + i) = y) (hO2 : ∀ i y, (lcO (qK β n) (qI β n) V (k + 1)).2[i]? = some y → sA S' 82 (no + i) = y) : zSc (qK β n) (qI β n) E V T A' sc2 sc.1.length (F + 1) (nl + (lcO (qK β n) (qI β n) V (k + 1)).1.length) (no + (lcO (qK β n) (qI β n) V (k + 1)).2.length) ind k2 S' := by
  obtain ⟨U, u1, u2, u3⟩ := sc_room (K := qK β n) h hK hls hI
  obtain ⟨ls, os, a, b, pm, ch, q, U0, c0, cF, cn, ⟨v1, v2, v3⟩, hr, hu, hf⟩ := h
  have hU0 := hu k hK hls (fun hF => rgn_S (hr hF (by omega) (by omega)) (Or.inr hls))
  obtain ⟨C, C1, C2, C3, C4⟩ := df_cnt (V := V) (l2 := l2) (zX_Tk hX) hk hK hI (by omega) hnl htk hkk hk21 hU0
  have eLC : lcO (qK β n) (qI β n) V (k + 1) = scn2 (qK β n) (qI β n) V ind l2.length 6001 (k2 + 2) none (scn1 (qK β n) (qI β n) V ind 6001 (k2 + 2) none l2, []) := by
    unfold lcO
    rw [hI1, ← hhd, show k + 1 + 2 = k + 3 from rfl, ← hl2]
  obtain ⟨r0, hr0⟩ := scn1_a (qK β n) (qI β n) V ind 6001 (k2 + 2) none l2
  have hkp0 : kpT l2.length l2 (scn1 (qK β n) (qI β n) V ind 6001 (k2 + 2) none l2) := by rw [hr0]; exact kpT_a l2 r0
  obtain ⟨p1, p2⟩ := scn2_t (qK β n) (qI β n) V ind 6001 (k2 + 2) none (scn1 (qK β n) (qI β n) V ind 6001 (k2 + 2) none l2, []) hkp0
  have p3 := (scn2_le (qK β n) (qI β n) V ind l2.length 6001 (k2 + 2) none (scn1 (qK β n) (qI β n) V ind 6001 (k2 + 2) none l2, [])).1
  rw [← eLC] at C2 p1 p2 p3
  obtain ⟨L1, hL1⟩ : ∃ L1, L1 = (lcO (qK β n) (qI β n) V (k + 1)).1 := ⟨_, rfl⟩
  obtain ⟨O1, hO1⟩ : ∃ O1, O1 = (lcO (qK β n) (qI β n) V (k + 1)).2 := ⟨_, rfl⟩
  rw [← hL1] at p1 p2 p3 hL ⊢
  rw [← hO1] at C2 hO2 ⊢
  have p3' : L1.length ≤ C := Nat.le_trans p3 C1
  have hlen2 : sc2.1.length = sc.1.length + 1 := by
    rw [hO.1]
    show (sc.1 ++ [_]).length = _
    rw [List.length_append]
    rfl
  have hwf : wfS sc2 := hO.2.2 (by
    show sc.1.length < (sc.1 ++ [_]).length
    rw [List.length_append]
    exact Nat.lt_succ_self _) (fun e he => by
    show e.1 < (sc.1 ++ [_]).length
    have := c0.2 e he
    rw [List.length_append]
    omega)
  have nF : ∀ f, f ≤ F → f ≠ F + 1 := fun f hf => by omega
  refine ⟨fun f => if f = F + 1 then L1 else ls f, fun f => if f = F + 1 then O1 else os f, fun f => if f = F + 1 then nl else a f, fun f => if f = F + 1 then no else b f, fun f => if f = F + 1 then l2.length else pm f, fun f => if f = F + 1 then sc.1.length else ch f, fun f => if f = F + 1 then k + 1 else q f, U0 + C, ⟨(if_neg (show ¬ 0 = F + 1 by omega)).trans c0.1, hwf⟩, if_pos rfl, fun e => by omega, ⟨by omega, by omega, by omega⟩, fun _ _ _ => ?_, fun k' hk' hl' hr' => ?_, fun f f1 f2 => ?_⟩
  · dsimp only
    rw [if_pos rfl, ← hhd]
    exact Or.inr ⟨rfl, by rw [hI1, hI2], h13, h7, by omega⟩
  · have hr2 := hr' (by omega)
    dsimp only at hr2
    rw [if_pos rfl, ← hhd, hI1] at hr2
    exact C4 k' hk' hl' hr2
  · dsimp only
    by_cases e : f = F + 1
    · subst e
      rw [if_pos rfl, if_pos rfl, if_pos rfl, if_pos rfl, if_pos rfl, if_pos rfl, if_pos rfl, if_pos rfl, if_pos rfl]
      refine ⟨⟨by rw [e75, if_pos rfl], by rw [e83, if_pos rfl], by rw [e76, if_pos rfl], p1, rfl, rfl, hL, hO2⟩, ⟨by omega, by omega, by rw [hL1, hO1], fun hq => ?_⟩, fun j hj => ?_⟩
      · rw [if_neg (nF _ (by omega)), hT hq]
        exact Prod.ext cF.symm rfl
      · rw [p2]
        obtain ⟨R1, R2⟩ := hR j hj
        unfold kp
        cases hq : scF E sc2 sc.1.length j with
        | none =>
          exact ⟨fun ⟨e, h1, _⟩ => (by cases h1), fun hm => absurd hm (R1.mp hq)⟩
        | some e =>
          refine ⟨fun _ => ?_, fun _ => ⟨e, rfl, R2 e hq⟩⟩
          rcases Decidable.em (V j ∈ l2) with z | z
          · exact z
          · rw [R1.mpr z] at hq
            cases hq
    · have f3 : f ≤ F := by omega
      obtain ⟨⟨e1, e2, e3, e4, e5, e6, e7, e8⟩, ⟨g1, g2, g3, g4⟩, g5⟩ := hf f f1 f3
      rw [if_neg e, if_neg e, if_neg e, if_neg e, if_neg e, if_neg e, if_neg e, if_neg e, if_neg e, if_neg (nF (f - 1) (by omega))]
      have hab : a f + (ls f).length ≤ nl ∧ b f + (os f).length ≤ no := by
        have hle : ∀ d f, 1 ≤ f → f + d = F → a f + (ls f).length ≤ nl ∧ b f + (os f).length ≤ no := by
          intro d
          induction d with
          | zero =>
            intro f h1 h2
            obtain ⟨⟨_, _, _, _, e5, e6, _⟩, _⟩ := hf f h1 (by omega)
            rw [if_pos (by omega)] at e5 e6
            omega
          | succ d ih =>
            intro f h1 h2
            obtain ⟨⟨_, _, _, _, e5, e6, _⟩, _⟩ := hf f h1 (by omega)
            rw [if_neg (by omega)] at e5 e6
            have := ih (f + 1) (by omega) (by omega)
            omega
        exact hle (F - f) f f1 (by omega)
      refine ⟨⟨by rw [e75, if_neg e]; exact e1, by rw [e83, if_neg e]; exact e2, by rw [e76, if_neg e]; exact e3, e4, ?_, ?_, fun i y hy => ?_, fun i y hy => ?_⟩, ⟨g1, by omega, g3, fun hq => g4 (hA hq)⟩, fun j hj => ?_⟩
      · by_cases ef : f = F
        · rw [if_pos ef] at e5
          rw [if_pos (by omega)]
          exact e5
        · rw [if_neg ef] at e5
          rw [if_neg (by omega)]
          exact e5
      · by_cases ef : f = F
        · rw [if_pos ef] at e6
          rw [if_pos (by omega)]
          exact e6
        · rw [if_neg ef] at e6
          rw [if_neg (by omega)]
          exact e6
      · have := (List.getElem?_eq_some_iff.mp hy).1
        rw [e74 _ (by omega)]
        exact e7 i y hy
      · have := (List.getElem?_eq_some_iff.mp hy).1
        rw [e82 _ (by omega)]
        exact e8 i y hy
      · exact (hO.2.1 (ch f) j (by omega)).trans (g5 j hj)
end
