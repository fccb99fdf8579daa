/-! WHERE NAMES ARE, PURE: global; a function -/
section
variable {β : Nat → Nat} {n k1 : Nat} {V : Nat → Int32} {E : Nat → Nat → Bool} {R : RsT} {dp ind lo s k tr ca ra : Nat} {lp : LpT} {sc : SCs} {at' : List Nat} {x : PT}
theorem wfS_G {sc1 : SCs} {j : Nat} (hw : wfS sc) (hs : s < sc.1.length) (h : scG E s j sc = some sc1) : wfS sc1 ∧ sc1.1 = sc.1 := by
  refine ⟨?_, (scG_l h).1⟩
  unfold scG at h
  cases hf : scF E sc s j with
  | none =>
    rw [hf] at h
    injection h with h
    subst h
    exact wfS_A hs hw
  | some e =>
    rw [hf] at h
    have h' : (if e.2.2 = 1 then none else some (scU E s j sc)) = some sc1 := h
    by_cases he : e.2.2 = 1
    · rw [if_pos he] at h'; cases h'
    · rw [if_neg he] at h'
      injection h' with h'
      subst h'
      intro y hy
      obtain ⟨w, w1, w2⟩ := List.mem_map.mp hy
      have := hw w w1
      rw [← w2]
      show (if (Nat.beq w.1 s && E w.2.1 j) = true then (w.1, w.2.1, 2) else w).1 < sc.1.length
      split <;> exact this
theorem evB_t : ∀ (M : List (Bool × Nat)) (B : List Int32), (∀ e, e ∈ M → e.1 = true) → M.foldl (evB V) B = B := by
  intro M
  induction M with
  | nil => intro B _; rfl
  | cons e M ih =>
    intro B h
    show M.foldl (evB V) (evB V B e) = B
    have : evB V B e = B := if_pos (h e (List.mem_cons_self ..))
    rw [this]
    exact ih B (fun y hy => h y (List.mem_cons_of_mem _ hy))
theorem psGl_ev (hE : eqV E (qK β n) V) {l : Nat} : ∀ (m : Nat) (sc : SCs) (k : Nat) (x : PT), psGl (qK β n) E l s at' m sc k = .inr x → enK (qK β n) sc → wfS sc → s < sc.1.length → ((enS V sc s).map Prod.fst).Nodup → ∃ (M : List (Bool × Nat)) (q : Nat), k < q ∧ qK β n q = 2 ∧ (∀ j, k ≤ j → j < q → 3 ≤ qK β n j) ∧ x.1 = q + 1 ∧ x.2.2.1.1 = sc.1 ∧ enS V x.2.2.1 s = M.foldl (evS V) (enS V sc s) ∧ evOk V (enS V sc s) M ∧ (∀ e, e ∈ M → e.1 = true) ∧ (∀ s', s' ≠ s → enT x.2.2.1 s' = enT sc s') ∧ enK (qK β n) x.2.2.1 ∧ wfS x.2.2.1 ∧ ((enS V x.2.2.1 s).map Prod.fst).Nodup ∧ ∀ F p lo, q < k + F → scnG (qK β n) V p F k lo = M.foldl (evG V p) lo := by
  intro m
  induction m with
  | zero => intro sc k x h; cases h
  | succ m ih =>
    intro sc k x h hK hw hs hn
    unfold psGl at h
    obtain ⟨h3, h⟩ := if_inr h
    cases hg : scG E s k sc with
    | none => rw [hg] at h; cases h
    | some sc1 =>
      rw [hg] at h
      obtain ⟨g1, g2, g3, g4⟩ := scG_ev hE hK h3 hn hg
      obtain ⟨w1, w2⟩ := wfS_G hw hs hg
      have hn1 : ((enS V sc1 s).map Prod.fst).Nodup := by rw [g1]; exact evS_nd hn
      have h' : (if qK β n (k + 1) = 12 then psGl (qK β n) E l s at' m sc1 (k + 2) else ln (qK β n) l (k + 1) [] sc1 at') = .inr x := h
      by_cases h12 : qK β n (k + 1) = 12
      · rw [if_pos h12] at h'
        obtain ⟨M, q, a1, a2, a3, a4, a5, a6, a7, a8, a9, a10, a11, a12, a13⟩ := ih sc1 (k + 2) x h' g4 w1 (by rw [w2]; exact hs) hn1
        refine ⟨(true, k) :: M, q, by omega, a2, fun j j1 j2 => ?_, a4, a5.trans w2, ?_, ⟨fun _ => g2, by rw [← g1]; exact a7⟩, fun e he => ?_, fun s' h => (a9 s' h).trans (g3 s' h), a10, a11, a12, fun F p lo hF => ?_⟩
        · rcases Nat.lt_or_ge j (k + 2) with z | z
          · have : j = k ∨ j = k + 1 := by omega
            rcases this with e | e <;> rw [e] <;> omega
          · exact a3 j z j2
        · rw [a6, g1]; rfl
        · rcases List.mem_cons.mp he with z | z
          · rw [z]
          · exact a8 e z
        · obtain ⟨F, rfl⟩ : ∃ y, F = y + 2 := ⟨F - 2, by omega⟩
          show (if qK β n k = 2 then lo else scnG (qK β n) V p (F + 1) (k + 1) (if qK β n k = 3 then (erH p lo.1 (V k), lo.2 ++ [V k]) else lo)) = _
          rw [if_neg (by omega), if_pos h3]
          show (if qK β n (k + 1) = 2 then _ else scnG (qK β n) V p F (k + 2) (if qK β n (k + 1) = 3 then _ else (erH p lo.1 (V k), lo.2 ++ [V k]))) = _
          rw [if_neg (by omega), if_neg (by omega)]
          exact a13 F p _ (by omega)
      · rw [if_neg h12] at h'
        obtain ⟨v1, v2⟩ := ln_inr h'
        subst v2
        refine ⟨[(true, k)], k + 1, by omega, v1, fun j j1 j2 => ?_, rfl, w2, g1, ⟨fun _ => g2, trivial⟩, fun e he => ?_, g3, g4, w1, hn1, fun F p lo hF => ?_⟩
        · obtain rfl : j = k := by omega
          omega
        · rw [List.mem_singleton] at he
          rw [he]
        · obtain ⟨F, rfl⟩ : ∃ y, F = y + 2 := ⟨F - 2, by omega⟩
          show (if qK β n k = 2 then lo else scnG (qK β n) V p (F + 1) (k + 1) (if qK β n k = 3 then (erH p lo.1 (V k), lo.2 ++ [V k]) else lo)) = _
          rw [if_neg (by omega), if_pos h3]
          show (if qK β n (k + 1) = 2 then _ else _) = _
          rw [if_pos v1]
          rfl
theorem psGl_V (hZ : zTk β n k1) (hE : eqV E (qK β n) V) (P : zPre β n k1 V sc s k) (hI : lo ≤ qI β n k) (hk : qK β n k = 53) (hs : s ≠ 0) {l m : Nat} (h : psGl (qK β n) E l s at' m sc (k + 1) = .inr x) : zRs β n k1 V true k lo s sc x := by
  obtain ⟨p1, p2, p3, p4, p5⟩ := P
  obtain ⟨M, q, a1, a2, a3, a4, a5, a6, a7, a8, a9, a10, a11, a12, a13⟩ := psGl_ev hE m sc (k + 1) x h p1 p2 p3 (p5 hs)
  have htk : ∀ j, k ≤ j → j < q → 3 ≤ qK β n j := fun j j1 j2 => by
    rcases Nat.eq_or_lt_of_le j1 with z | z
    · rw [← z]; omega
    · exact a3 j z j2
  have hq1 := q_lt1 hZ p4 (by omega) a2 htk
  have hz := hZ.1
  refine ⟨⟨[], by rw [List.append_nil]; exact a5⟩, fun s' _ h => a9 s' h, fun u h1 h2 => absurd h2 (by rw [a5]; omega), ⟨?_, fun _ => ?_, by omega⟩, ⟨a10, a11, by rw [a5]; exact p3, by omega, fun _ => a12⟩, fun h1 h3 own ho => ?_, fun h => by cases h⟩
  · rw [a4]; exact lz_tk (by omega) a2 htk hI
  · rw [a4]; exact a2
  · rw [a4]
    exact zV_ln hZ M (by omega) a2 htk hq1 (by omega) (lnS_n (by omega)) a6 a7 (fun B => (lnB_0 (by omega) (by omega) B).trans (evB_t M B a8).symm) (fun p lo => (if_pos hk).trans (a13 6001 p lo (by omega)))
/-- parameters -/
theorem psPr_V (hE : eqV E (qK β n) V) {u : Nat} : ∀ (m c : Nat) (sc : SCs) (k : Nat) (y : Nat × SCs × Nat), psPr (qK β n) E u m c sc k = some y → enK (qK β n) sc → wfS sc → u < sc.1.length → ((enS V sc u).map Prod.fst).Nodup → enS V y.2.1 u = enS V sc u ++ (prmL (qK β n) V (9 - c) k).map (fun x => (x, 1)) ∧ ((enS V y.2.1 u).map Prod.fst).Nodup ∧ 1 ≤ (prmL (qK β n) V (9 - c) k).length ∧ y.1 = k + 2 * (prmL (qK β n) V (9 - c) k).length ∧ (∀ j, k ≤ j → j < y.1 → 3 ≤ qK β n j) ∧ y.2.1.1 = sc.1 ∧ enK (qK β n) y.2.1 ∧ wfS y.2.1 ∧ ∀ s', s' ≠ u → enT y.2.1 s' = enT sc s' := by
  intro m
  induction m with
  | zero => intro c sc k y h; cases h
  | succ m ih =>
    intro c sc k y h hK hw hu hn
    unfold psPr at h
    by_cases hc : qK β n k = 3 ∧ c < 8
    · rw [if_pos hc] at h
      cases hg : scP E u k sc with
      | none => rw [hg] at h; cases h
      | some sc1 =>
        rw [hg] at h
        obtain ⟨g1, g2, g3, g4, g5⟩ := scP_ev hE hK hc.1 hg
        have w1 : wfS sc1 := by
          unfold scP at hg
          cases hf : scF E sc u k with
          | none =>
            rw [hf] at hg
            injection hg with hg
            subst hg
            exact wfS_A hu hw
          | some e => rw [hf] at hg; cases hg
        have hn1 : ((enS V sc1 u).map Prod.fst).Nodup := by
          rw [g1, List.map_append]
          exact List.nodup_append.mpr ⟨hn, List.nodup_cons.mpr ⟨List.not_mem_nil, List.nodup_nil⟩, fun a ha b hb e2 => g2 (by
            have hb' : b ∈ [V k] := hb
            rw [List.mem_singleton] at hb'
            rw [← hb', ← e2]; exact ha)⟩
        obtain ⟨f, hf⟩ : ∃ f, 9 - c = f + 1 := ⟨8 - c, by omega⟩
        have hf2 : 9 - (c + 1) = f := by omega
        have e1 : prmL (qK β n) V (9 - c) k = V k :: (if qK β n (k + 1) = 12 then prmL (qK β n) V f (k + 2) else []) := by
          rw [hf]
          show (if qK β n k = 3 then _ else _) = _
          rw [if_pos hc.1]
        have h' : (if qK β n (k + 1) = 12 then psPr (qK β n) E u m (c + 1) sc1 (k + 2) else if qK β n (k + 1) = 7 then some (k + 2, sc1, c + 1) else none) = some y := h
        by_cases h12 : qK β n (k + 1) = 12
        · rw [if_pos h12] at h' e1
          obtain ⟨a1, a2, a3, a4, a5, a6, a7, a8, a9⟩ := ih (c + 1) sc1 (k + 2) y h' g4 w1 (by rw [g5]; exact hu) hn1
          rw [hf2] at a1 a3 a4
          rw [e1]
          refine ⟨?_, a2, by rw [List.length_cons]; omega, by rw [a4, List.length_cons]; omega, fun j j1 j2 => ?_, a6.trans g5, a7, a8, fun s' h => (a9 s' h).trans (g3 s' h)⟩
          · rw [a1, g1, List.append_assoc]; rfl
          · rcases Nat.lt_or_ge j (k + 2) with z | z
            · have : j = k ∨ j = k + 1 := by omega
              rcases this with e | e <;> rw [e] <;> omega
            · exact a5 j z j2
        · rw [if_neg h12] at h' e1
          by_cases h7 : qK β n (k + 1) = 7
          · rw [if_pos h7] at h'
            injection h' with h'
            subst h'
            rw [e1]
            refine ⟨g1, hn1, Nat.le_refl _, rfl, fun j j1 j2 => ?_, g5, g4, w1, g3⟩
            have : j = k ∨ j = k + 1 := by dsimp only at j2; omega
            rcases this with e | e <;> rw [e] <;> omega
          · rw [if_neg h7] at h'; cases h'
    · rw [if_neg hc] at h; cases h
theorem psPs_V (hE : eqV E (qK β n) V) {u q : Nat} {y : Nat × SCs × Nat} (h : psPs (qK β n) E u sc (q + 2) = some y) (hK : enK (qK β n) sc) (hw : wfS sc) (hu : u < sc.1.length) (hn : enT sc u = []) : enS V y.2.1 u = (prmL (qK β n) V 9 (q + 2)).map (fun x => (x, 1)) ∧ (prmL (qK β n) V 9 (q + 2)).Nodup ∧ y.1 = hdE (qK β n) V q ∧ q + 2 < y.1 ∧ (∀ j, q + 2 ≤ j → j < y.1 → 3 ≤ qK β n j) ∧ y.2.1.1 = sc.1 ∧ enK (qK β n) y.2.1 ∧ wfS y.2.1 ∧ ∀ s', s' ≠ u → enT y.2.1 s' = enT sc s' := by
  have hn0 : enS V sc u = [] := by unfold enS; rw [hn]; rfl
  unfold psPs at h
  unfold hdE
  by_cases h7 : qK β n (q + 2) = 7
  · rw [if_pos h7] at h
    injection h with h
    subst h
    have e : prmL (qK β n) V 9 (q + 2) = [] := if_neg (by omega)
    rw [e, if_pos h7]
    refine ⟨hn0, List.nodup_nil, rfl, by dsimp only; omega, fun j j1 j2 => ?_, rfl, hK, hw, fun _ _ => rfl⟩
    have : j = q + 2 := by dsimp only at j2; omega
    rw [this]; omega
  · rw [if_neg h7] at h
    obtain ⟨a1, a2, a3, a4, a5, a6, a7, a8, a9⟩ := psPr_V hE 20 0 sc (q + 2) y h hK hw hu (by rw [hn0]; exact List.nodup_nil)
    rw [hn0, List.nil_append] at a1
    rw [if_neg h7]
    refine ⟨a1, ?_, a4, by have a3' : 1 ≤ (prmL (qK β n) V 9 (q + 2)).length := a3; rw [a4]; show q + 2 < q + 2 + 2 * (prmL (qK β n) V 9 (q + 2)).length; omega, a5, a6, a7, a8, a9⟩
    rw [a1, List.map_map] at a2
    have e : (prmL (qK β n) V (9 - 0) (q + 2)).map (Prod.fst ∘ fun x => (x, 1)) = prmL (qK β n) V 9 (q + 2) := List.map_id _
    rw [e] at a2
    exact a2
end
