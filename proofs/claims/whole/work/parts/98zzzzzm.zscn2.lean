/-! STATEMENTS OF THE REFERENCE: the scan of a function's block: what its lines tell global; 338 as a whole -/
section
variable {β : Nat → Nat} {n : Nat} {V : Nat → Int32} {own0 : Nat → Nat × Nat} {m u k1 : Nat} {S0 Sb S S1 S2 : cS} {H B0 d c w t f b a bo p F la lw : Nat} {l o : List Int32}
/-- to the line's end: second scan -/
theorem nl_2 {sk : Option Nat} {r : Nat} (hX : zX β n V own0 m k1 S0) (h : zE own0 m u S0 H B0 c w t f b S) (hsk : skM sk) (hr : r < k1) (h2 : qK β n r = 2) (mlw : lw < 2 ^ 20) : ∀ (q k : Nat), k + q = r → (∀ j, k ≤ j → j < r → qK β n j ≠ 2) → ∀ (lv : sm_L) (v : Option Value) (Sf : cS), sm_get lv 0 = some (.ref 61) → sm_get lv 2 = some (.int (nI lw)) → sm_get lv 3 = some (.int (nI k)) → sm_get lv 4 = some (.int (skv sk)) → (∀ lv1 : sm_L, sm_get lv1 0 = some (.ref 61) → sm_get lv1 2 = some (.int (nI lw)) → sm_get lv1 3 = some (.int (nI (r + 1))) → sm_get lv1 4 = some (.int (skv sk)) → Bod (d + 8) 338 359 lv1 [] S v Sf) → Bod (d + 8) 338 518 lv [] S v Sf := by
  intro q
  have hk1 := hX.2.1
  induction q with
  | zero =>
    intro k h1 h3 lv v Sf q0 q2 q3 q4 hB
    obtain rfl : k = r := by omega
    obtain ⟨t1, -⟩ := z_tok hX h (Nat.le_of_lt hr)
    have hlt := rkd_lt (qK β n k)
    cases sk with
    | some i => exact zSh_1 (d := d) q0 q2 q3 q4 mlw (by omega) (hsk i rfl) (by omega) t1 (by omega) (rkd_6.mpr h2) hB
    | none => exact zSi2_1 (d := d) q0 q2 q3 q4 mlw (by omega) (by omega) t1 (by omega) (rkd_6.mpr h2) hB
  | succ q ih =>
    intro k h1 h3 lv v Sf q0 q2 q3 q4 hB
    obtain ⟨t1, -⟩ := z_tok hX h (show k ≤ k1 by omega)
    have hlt := rkd_lt (qK β n k)
    have hne : rkd (qK β n k) ≠ 6 := fun e => h3 k (Nat.le_refl _) (by omega) (rkd_6.mp e)
    cases sk with
    | some i => exact zSh_2 (d := d) q0 q2 q3 q4 mlw (by omega) (hsk i rfl) (by omega) t1 (by omega) hne (fun lv1 p0 p2 p3 p4 => ih (k + 1) (by omega) (fun j j1 j2 => h3 j (by omega) j2) lv1 v Sf p0 p2 p3 p4 hB)
    | none => exact zSi2_2 (d := d) q0 q2 q3 q4 mlw (by omega) (by omega) t1 (by omega) hne (fun lv1 p0 p2 p3 p4 => ih (k + 1) (by omega) (fun j j1 j2 => h3 j (by omega) j2) lv1 v Sf p0 p2 p3 p4 hB)
/-- a line is begun -/
theorem at_359 {sk : Option Nat} {k : Nat} (hX : zX β n V own0 m k1 S0) (h : zE own0 m u S0 H B0 c w t f b S) (hsk : skM sk) (hk : k ≤ k1) (h2 : qK β n k ≠ 2) (mlw : lw < 2 ^ 20) (lv : sm_L) (q0 : sm_get lv 0 = some (.ref 61)) (q2 : sm_get lv 2 = some (.int (nI lw))) (q3 : sm_get lv 3 = some (.int (nI k))) (q4 : sm_get lv 4 = some (.int (skv sk))) : (qK β n k = 1 ∨ qI β n k ≤ lw → Bod (d + 8) 338 359 lv [] S none S) ∧ ∀ (v : Option Value) (Sf : cS), (qK β n k ≠ 1 → lw < qI β n k → ∀ lv1 : sm_L, sm_get lv1 0 = some (.ref 61) → sm_get lv1 2 = some (.int (nI lw)) → sm_get lv1 3 = some (.int (nI k)) → sm_get lv1 4 = some (.int (skv (skN (qI β n k) sk))) → Bod (d + 8) 338 399 lv1 [] S v Sf) → qK β n k ≠ 1 → lw < qI β n k → Bod (d + 8) 338 359 lv [] S v Sf := by
  have hk1 := hX.2.1
  obtain ⟨t1, -, t3, -⟩ := z_tok hX h hk
  have hlt := rkd_lt (qK β n k)
  have hiM := k_i (k := k) hX
  refine ⟨fun e => ?_, fun v Sf hB e1 e2 => ?_⟩
  · by_cases e1 : qK β n k = 1
    · have e7 : rkd (qK β n k) = 7 := rkd_7.mpr e1
      cases sk with
      | some i => exact zSe_1 (d := d) q0 q2 q3 q4 mlw (by omega) (hsk i rfl) (by omega) t1 (by omega) e7
      | none => exact zSf_1 (d := d) q0 q2 q3 q4 mlw (by omega) (by omega) t1 (by omega) e7
    · have e7 : rkd (qK β n k) ≠ 7 := fun e => e1 (rkd_7.mp e)
      have t3' := t3 e1 h2
      have e2 := e.resolve_left e1
      cases sk with
      | some i => exact zSe_2 (d := d) q0 q2 q3 q4 mlw (by omega) (hsk i rfl) (by omega) t1 (by omega) e7 t3' (by omega) e2
      | none => exact zSf_2 (d := d) q0 q2 q3 q4 mlw (by omega) (by omega) t1 (by omega) e7 t3' (by omega) e2
  · have e7 : rkd (qK β n k) ≠ 7 := fun e => e1 (rkd_7.mp e)
    have t3' := t3 e1 h2
    have hB' := hB e1 e2
    cases sk with
    | some i =>
      by_cases e3 : qI β n k ≤ i
      · have es : skN (qI β n k) (some i) = none := if_pos e3
        rw [es] at hB'
        exact zSe_4 (d := d) q0 q2 q3 q4 mlw (by omega) (hsk i rfl) (by omega) t1 (by omega) e7 t3' (by omega) (by omega) e3 hB'
      · have es : skN (qI β n k) (some i) = some i := if_neg e3
        rw [es] at hB'
        exact zSe_3 (d := d) q0 q2 q3 q4 mlw (by omega) (hsk i rfl) (by omega) t1 (by omega) e7 t3' (by omega) (by omega) (by omega) hB'
    | none => exact zSf_3 (d := d) q0 q2 q3 q4 mlw (by omega) (by omega) t1 (by omega) e7 t3' (by omega) (by omega) hB'
theorem erH_le (p : Nat) (l : List Int32) (x : Int32) : (erH p l x).length ≤ l.length := by
  unfold erH
  split
  · split
    · exact Nat.le_refl _
    · exact List.length_eraseIdx_le ..
  · exact Nat.le_refl _
theorem scnG_le (K : Nat → Nat) (V : Nat → Int32) (p : Nat) : ∀ (f j : Nat) (lo : List Int32 × List Int32), (scnG K V p f j lo).1.length ≤ lo.1.length ∧ lo.2.length ≤ (scnG K V p f j lo).2.length := by
  intro f
  induction f with
  | zero => intro j lo; exact ⟨Nat.le_refl _, Nat.le_refl _⟩
  | succ f ih =>
    intro j lo
    unfold scnG
    split
    · exact ⟨Nat.le_refl _, Nat.le_refl _⟩
    · obtain ⟨h1, h2⟩ := ih (j + 1) (if K j = 3 then (erH p lo.1 (V j), lo.2 ++ [V j]) else lo)
      split at h1
      · rename_i e
        rw [if_pos e] at h2
        rw [if_pos e]
        exact ⟨Nat.le_trans h1 (erH_le _ _ _), Nat.le_trans (by show lo.2.length ≤ (lo.2 ++ [V j]).length; rw [List.length_append]; exact Nat.le_add_right _ _) h2⟩
      · rename_i e
        rw [if_neg e] at h2
        rw [if_neg e]
        exact ⟨h1, h2⟩
theorem scn2_le (K I : Nat → Nat) (V : Nat → Int32) (ow p : Nat) : ∀ (f k : Nat) (sk : Option Nat) (lo : List Int32 × List Int32), (scn2 K I V ow p f k sk lo).1.length ≤ lo.1.length ∧ lo.2.length ≤ (scn2 K I V ow p f k sk lo).2.length := by
  intro f
  induction f with
  | zero => intro k sk lo; exact ⟨Nat.le_refl _, Nat.le_refl _⟩
  | succ f ih =>
    intro k sk lo
    unfold scn2
    split
    · exact ⟨Nat.le_refl _, Nat.le_refl _⟩
    · split
      · exact ih _ _ _
      · obtain ⟨h1, h2⟩ := ih (nxK K 6001 k) (lnS K I k) (if K k = 53 then scnG K V p 6001 (k + 1) lo else lo)
        by_cases e : K k = 53
        · rw [if_pos e] at h1 h2 ⊢
          obtain ⟨g1, g2⟩ := scnG_le K V p 6001 (k + 1) lo
          exact ⟨Nat.le_trans h1 g1, Nat.le_trans g2 h2⟩
        · rw [if_neg e] at h1 h2 ⊢
          exact ⟨h1, h2⟩
/-- names of a line that tells global -/
theorem ln_478 {k r : Nat} (hX : zX β n V own0 m k1 S0) (hF : sI Sb 6122 = nI F) (hFM : F < 15) (h75 : sA Sb 75 F = nI a) (h76 : sA Sb 76 F = nI p) (hp : p < 6000) (hr : r < k1) (h2 : qK β n r = 2) (mlw : lw < 2 ^ 20) (hk : k ≤ r) : ∀ (g j : Nat) (l o : List Int32) (S : cS), zSn own0 m u S0 H B0 c w t f b a bo l o Sb S → j ≤ r → (∀ i, j ≤ i → i < r → qK β n i ≠ 2) → r < j + g → a + l.length < 6000 → bo + (scnG (qK β n) V p g j (l, o)).2.length ≤ 6000 → ∃ S1, (∀ (lv : sm_L) (v : Option Value) (Sf : cS), sm_get lv 0 = some (.ref 61) → sm_get lv 2 = some (.int (nI lw)) → sm_get lv 3 = some (.int (nI k)) → sm_get lv 4 = some (.int (Int32.ofInt (-1))) → sm_get lv 5 = some (.int (nI j)) → (∀ lv1 : sm_L, sm_get lv1 0 = some (.ref 61) → sm_get lv1 2 = some (.int (nI lw)) → sm_get lv1 3 = some (.int (nI k)) → sm_get lv1 4 = some (.int (Int32.ofInt (-1))) → Bod (d + 11) 338 518 lv1 [] S1 v Sf) → Bod (d + 11) 338 478 lv [] S v Sf) ∧ zSn own0 m u S0 H B0 c w t f b a bo (scnG (qK β n) V p g j (l, o)).1 (scnG (qK β n) V p g j (l, o)).2 Sb S1 := by
  intro g
  have hk1 := hX.2.1
  induction g with
  | zero => intro j l o S h h3 h4 h5; omega
  | succ g ih =>
    intro j l o S h h3 h4 h5 ha hbo
    obtain ⟨t1, -, -, -, t5, t6, -, -⟩ := z_tok hX h.1 (show j ≤ k1 by omega)
    have hlt := rkd_lt (qK β n j)
    by_cases e2 : qK β n j = 2
    · have eP : scnG (qK β n) V p (g + 1) j (l, o) = (l, o) := if_pos e2
      rw [eP]
      exact ⟨S, fun lv v Sf q0 q2 q3 q4 q5 hB => zSg_1 (d := d + 3) q0 q2 q3 q4 q5 mlw (by omega) (by omega) (by omega) t1 (by omega) (rkd_6.mpr e2) hB, h⟩
    · have hjr : j < r := by
        rcases Nat.lt_or_ge j r with e | e
        · exact e
        · obtain rfl : j = r := by omega
          exact absurd h2 e2
      have e6 : rkd (qK β n j) ≠ 6 := fun e => e2 (rkd_6.mp e)
      by_cases e3 : qK β n j = 3
      · have eP : scnG (qK β n) V p (g + 1) j (l, o) = scnG (qK β n) V p g (j + 1) (erH p l (V j), o ++ [V j]) := by
          show (if qK β n j = 2 then (l, o) else scnG (qK β n) V p g (j + 1) (if qK β n j = 3 then (erH p l (V j), o ++ [V j]) else (l, o))) = _
          rw [if_neg e2, if_pos e3]
        rw [eP] at hbo ⊢
        obtain ⟨x, hx, hV⟩ := t6 e3
        have hle := (scnG_le (qK β n) V p g (j + 1) (erH p l (V j), o ++ [V j])).2
        have hle2 : o.length + 1 ≤ (scnG (qK β n) V p g (j + 1) (erH p l (V j), o ++ [V j])).2.length := Nat.le_trans (by show _ ≤ (o ++ [V j]).length; rw [List.length_append]; exact Nat.le_refl _) hle
        have her := erH_le p l (V j)
        obtain ⟨S2, hA, z2⟩ := forget_ev (d := d + 2) h hF hFM h75 h76 hp ha (by omega) (show x < 2 ^ 20 by omega)
        rw [← hV] at z2
        obtain ⟨S1, hB1, z1⟩ := ih (j + 1) _ _ S2 z2 hjr (fun i i1 i2 => h4 i (by omega) i2) (by omega) (by omega) hbo
        exact ⟨S1, fun lv v Sf q0 q2 q3 q4 q5 hB => zSg_3 (d := d + 3) q0 q2 q3 q4 q5 mlw (by omega) (by omega) (by omega) t1 (by omega) e6 (rkd_1.mpr e3) (t5.trans hV) (by omega) hA (fun lv1 p0 p2 p3 p4 p5 => hB1 lv1 v Sf p0 p2 p3 p4 p5 hB), z1⟩
      · have eP : scnG (qK β n) V p (g + 1) j (l, o) = scnG (qK β n) V p g (j + 1) (l, o) := by
          show (if qK β n j = 2 then (l, o) else scnG (qK β n) V p g (j + 1) (if qK β n j = 3 then (erH p l (V j), o ++ [V j]) else (l, o))) = _
          rw [if_neg e2, if_neg e3]
        rw [eP] at hbo ⊢
        obtain ⟨S1, hB1, z1⟩ := ih (j + 1) l o S h hjr (fun i i1 i2 => h4 i (by omega) i2) (by omega) ha hbo
        exact ⟨S1, fun lv v Sf q0 q2 q3 q4 q5 hB => zSg_2 (d := d + 3) q0 q2 q3 q4 q5 mlw (by omega) (by omega) (by omega) t1 (by omega) e6 (fun e => e3 (rkd_1.mp e)) (fun lv1 p0 p2 p3 p4 p5 => hB1 lv1 v Sf p0 p2 p3 p4 p5 hB), z1⟩
theorem ln_399 {k r : Nat} (hX : zX β n V own0 m k1 S0) (h : zSn own0 m u S0 H B0 c w t f b a bo l o Sb S) (hF : sI Sb 6122 = nI F) (hFM : F < 15) (h75 : sA Sb 75 F = nI a) (h76 : sA Sb 76 F = nI p) (hp : p < 6000) (hr : r < k1) (h2 : qK β n r = 2) (hkr : k < r) (hj : ∀ i, k ≤ i → i < r → qK β n i ≠ 2) (mlw : lw < 2 ^ 20) (ha : a + l.length < 6000) (hbo : bo + (if qK β n k = 53 then scnG (qK β n) V p 6001 (k + 1) (l, o) else (l, o)).2.length ≤ 6000) : ∃ S1, (∀ (lv : sm_L) (v : Option Value) (Sf : cS), sm_get lv 0 = some (.ref 61) → sm_get lv 2 = some (.int (nI lw)) → sm_get lv 3 = some (.int (nI k)) → sm_get lv 4 = some (.int (Int32.ofInt (-1))) → (∀ lv1 : sm_L, sm_get lv1 0 = some (.ref 61) → sm_get lv1 2 = some (.int (nI lw)) → sm_get lv1 3 = some (.int (nI k)) → sm_get lv1 4 = some (.int (skv (lnS (qK β n) (qI β n) k))) → Bod (d + 11) 338 518 lv1 [] S1 v Sf) → Bod (d + 11) 338 399 lv [] S v Sf) ∧ zSn own0 m u S0 H B0 c w t f b a bo (if qK β n k = 53 then scnG (qK β n) V p 6001 (k + 1) (l, o) else (l, o)).1 (if qK β n k = 53 then scnG (qK β n) V p 6001 (k + 1) (l, o) else (l, o)).2 Sb S1 := by
  have hk1 := hX.2.1
  have hK1 : qK β n k ≠ 1 := hX.2.2.2.1 k (by omega)
  have hK2 := hj k (Nat.le_refl _) hkr
  obtain ⟨t1, -, t3, -, t5, -, t7, -⟩ := z_tok hX h.1 (show k ≤ k1 by omega)
  have hlt := rkd_lt (qK β n k)
  have hq64 := (q_lt β n k).2.2.2.2
  have hiM := k_i (k := k) hX
  have e70 := t3 hK1 hK2
  by_cases e40 : 40 ≤ qK β n k
  · have e2 : rkd (qK β n k) = 2 := rkd_2.mpr e40
    have h68 := t5.trans (t7 e40)
    by_cases eD : qK β n k = 46 ∨ qK β n k = 47
    · have hS : lnS (qK β n) (qI β n) k = some (qI β n k) := if_pos eD
      have n53 : qK β n k ≠ 53 := by omega
      rw [if_neg n53, hS]
      refine ⟨S, fun lv v Sf q0 q2 q3 q4 hB => ?_, h⟩
      rcases eD with e | e
      · exact zSl_2 (d := d + 3) q0 q2 q3 q4 mlw (by omega) (by omega) t1 (by omega) e2 h68 (by omega) (by omega) e70 (by omega) hB
      · exact zSl_5 (d := d + 3) q0 q2 q3 q4 mlw (by omega) (by omega) t1 (by omega) e2 h68 (by omega) (by omega) (by omega) e70 (by omega) hB
    · have hS : lnS (qK β n) (qI β n) k = none := if_neg eD
      rw [hS]
      by_cases e53 : qK β n k = 53
      · rw [if_pos e53] at hbo ⊢
        obtain ⟨S1, hB1, z1⟩ := ln_478 (d := d) (k := k) hX hF hFM h75 h76 hp hr h2 mlw (by omega) 6001 (k + 1) l o S h (by omega) (fun i i1 i2 => hj i (by omega) i2) (by omega) ha hbo
        exact ⟨S1, fun lv v Sf q0 q2 q3 q4 hB => zSl_4 (d := d + 3) q0 q2 q3 q4 mlw (by omega) (by omega) t1 (by omega) e2 h68 (by omega) (by omega) (by omega) (by omega) (fun lv1 p0 p2 p3 p4 p5 => hB1 lv1 v Sf p0 p2 p3 p4 p5 hB), z1⟩
      · rw [if_neg e53]
        exact ⟨S, fun lv v Sf q0 q2 q3 q4 hB => zSl_3 (d := d + 3) q0 q2 q3 q4 mlw (by omega) (by omega) t1 (by omega) e2 h68 (by omega) (by omega) (by omega) (by omega) hB, h⟩
  · have hS : lnS (qK β n) (qI β n) k = none := if_neg (by omega)
    have n53 : qK β n k ≠ 53 := by omega
    rw [if_neg n53, hS]
    exact ⟨S, fun lv v Sf q0 q2 q3 q4 hB => zSl_1 (d := d + 3) q0 q2 q3 q4 mlw (by omega) (by omega) t1 (by omega) (fun q => e40 (rkd_2.mp q)) hB, h⟩
/-- the second scan -/
theorem scan_2 (hX : zX β n V own0 m k1 S0) (hF : sI Sb 6122 = nI F) (hFM : F < 15) (h75 : sA Sb 75 F = nI a) (h76 : sA Sb 76 F = nI p) (hp : p < 6000) (mlw : lw < 2 ^ 20) : ∀ (g k : Nat) (sk : Option Nat) (lo : List Int32 × List Int32) (S : cS), zSn own0 m u S0 H B0 c w t f b a bo lo.1 lo.2 Sb S → skM sk → k ≤ k1 → qK β n k ≠ 2 → k1 < k + g → a + lo.1.length < 6000 → bo + (scn2 (qK β n) (qI β n) V lw p g k sk lo).2.length ≤ 6000 → ∃ S1, (∀ (lv : sm_L), sm_get lv 0 = some (.ref 61) → sm_get lv 2 = some (.int (nI lw)) → sm_get lv 3 = some (.int (nI k)) → sm_get lv 4 = some (.int (skv sk)) → Bod (d + 11) 338 359 lv [] S none S1) ∧ zSn own0 m u S0 H B0 c w t f b a bo (scn2 (qK β n) (qI β n) V lw p g k sk lo).1 (scn2 (qK β n) (qI β n) V lw p g k sk lo).2 Sb S1 := by
  intro g
  have hk1 := hX.2.1
  have hkE := hX.2.2.1
  induction g with
  | zero => intro k sk lo S h hsk hk h2 hg; omega
  | succ g ih =>
    intro k sk lo S h hsk hk h2 hg ha hbo
    have hiM := k_i (k := k) hX
    by_cases e1 : qK β n k = 1 ∨ qI β n k ≤ lw
    · have eP : scn2 (qK β n) (qI β n) V lw p (g + 1) k sk lo = lo := if_pos e1
      rw [eP]
      exact ⟨S, fun lv q0 q2 q3 q4 => (at_359 (d := d + 3) hX h.1 hsk hk h2 mlw lv q0 q2 q3 q4).1 e1, h⟩
    · have e1' : qK β n k ≠ 1 := fun e => e1 (Or.inl e)
      have eI' : lw < qI β n k := by omega
      obtain ⟨r, r1, r2, r3, r4, r5, r6⟩ := nx_ok hkE hX.2.2.2.1 k1 k (by omega) hk e1'
      have hnx : nxK (qK β n) 6001 k = r + 1 := r6 6001 (by omega)
      have hkr : k < r := by
        rcases Nat.lt_or_ge k r with e | e
        · exact e
        · obtain rfl : k = r := by omega
          exact absurd r3 h2
      have hr2 := q_22 r3
      cases hs : skN (qI β n k) sk with
      | some i =>
        have hsi : sk = some i := by
          unfold skN at hs
          split at hs
          · split at hs
            · cases hs
            · exact hs
          · cases hs
        have eP : scn2 (qK β n) (qI β n) V lw p (g + 1) k sk lo = scn2 (qK β n) (qI β n) V lw p g (r + 1) (some i) lo := by
          show (if qK β n k = 1 ∨ qI β n k ≤ lw then lo else match skN (qI β n k) sk with
            | some i => scn2 (qK β n) (qI β n) V lw p g (nxK (qK β n) 6001 k) (some i) lo
            | none => _) = _
          rw [if_neg e1, hs, hnx]
        rw [eP] at hbo ⊢
        have hsk' : skM (some i) := by rw [← hsi]; exact hsk
        obtain ⟨S1, hB1, z1⟩ := ih (r + 1) (some i) lo S h hsk' (by omega) hr2 (by omega) ha hbo
        refine ⟨S1, fun lv q0 q2 q3 q4 => (at_359 (d := d + 3) hX h.1 hsk hk h2 mlw lv q0 q2 q3 q4).2 _ _ (fun _ _ lv1 p0 p2 p3 p4 => ?_) e1' eI', z1⟩
        rw [hs] at p4
        exact zSk_1 (d := d + 3) p0 p2 p3 p4 mlw (by omega) (hsk' i rfl) (fun lv2 s0 s2 s3 s4 => nl_2 (d := d + 3) hX h.1 hsk' r2 r3 mlw (r - k) k (by omega) (fun j j1 j2 => (r4 j j1 j2).1) lv2 _ _ s0 s2 s3 s4 (fun lv3 t0 t2 t3 t4 => hB1 lv3 t0 t2 t3 t4))
      | none =>
        have eP : scn2 (qK β n) (qI β n) V lw p (g + 1) k sk lo = scn2 (qK β n) (qI β n) V lw p g (r + 1) (lnS (qK β n) (qI β n) k) (if qK β n k = 53 then scnG (qK β n) V p 6001 (k + 1) lo else lo) := by
          show (if qK β n k = 1 ∨ qI β n k ≤ lw then lo else match skN (qI β n k) sk with
            | some i => scn2 (qK β n) (qI β n) V lw p g (nxK (qK β n) 6001 k) (some i) lo
            | none => _) = _
          rw [if_neg e1, hs, hnx]
        rw [eP] at hbo ⊢
        have hln := scn2_le (qK β n) (qI β n) V lw p g (r + 1) (lnS (qK β n) (qI β n) k) (if qK β n k = 53 then scnG (qK β n) V p 6001 (k + 1) lo else lo)
        have hg1 : (if qK β n k = 53 then scnG (qK β n) V p 6001 (k + 1) lo else lo).1.length ≤ lo.1.length := by
          split
          · exact (scnG_le _ _ _ _ _ _).1
          · exact Nat.le_refl _
        have hsk' : skM (lnS (qK β n) (qI β n) k) := fun i hi => by
          unfold lnS at hi
          split at hi
          · injection hi with hi
            omega
          · cases hi
        obtain ⟨S2, hB2, z2⟩ := ln_399 (d := d) (l := lo.1) (o := lo.2) hX h hF hFM h75 h76 hp r2 r3 hkr (fun i i1 i2 => (r4 i i1 i2).1) mlw ha (Nat.le_trans (Nat.add_le_add_left hln.2 bo) hbo)
        obtain ⟨S1, hB1, z1⟩ := ih (r + 1) (lnS (qK β n) (qI β n) k) (if qK β n k = 53 then scnG (qK β n) V p 6001 (k + 1) lo else lo) S2 z2 hsk' (by omega) hr2 (by omega) (by omega) hbo
        refine ⟨S1, fun lv q0 q2 q3 q4 => (at_359 (d := d + 3) hX h.1 hsk hk h2 mlw lv q0 q2 q3 q4).2 _ _ (fun _ _ lv1 p0 p2 p3 p4 => ?_) e1' eI', z1⟩
        rw [hs] at p4
        exact hB2 lv1 _ _ p0 p2 p3 p4 (fun lv2 s0 s2 s3 s4 => nl_2 (d := d + 3) hX z2.1 hsk' r2 r3 mlw (r - k) k (by omega) (fun j j1 j2 => (r4 j j1 j2).1) lv2 _ _ s0 s2 s3 s4 (fun lv3 t0 t2 t3 t4 => hB1 lv3 t0 t2 t3 t4))
/-- 338: l are the parameters -/
theorem scan_T {k : Nat} (hX : zX β n V own0 m k1 S0) (h : zSn own0 m u S0 H B0 c w t f b a bo l [] Sb S) (hF : sI Sb 6122 = nI F) (hFM : F < 15) (h75 : sA Sb 75 F = nI a) (h76 : sA Sb 76 F = nI p) (hp : p < 6000) (mlw : lw < 2 ^ 20) (hk : k ≤ k1) (h2 : qK β n k ≠ 2) (ha : a + (scn1 (qK β n) (qI β n) V lw 6001 k none l).length < 6000) (hbo : bo + (scn2 (qK β n) (qI β n) V lw p 6001 k none (scn1 (qK β n) (qI β n) V lw 6001 k none l, [])).2.length ≤ 6000) : ∃ S1, Ans (d + 12) 338 [.ref 61, .int (nI k), .int (nI lw)] S none S1 ∧ zSn own0 m u S0 H B0 c w t f b a bo (scn2 (qK β n) (qI β n) V lw p 6001 k none (scn1 (qK β n) (qI β n) V lw 6001 k none l, [])).1 (scn2 (qK β n) (qI β n) V lw p 6001 k none (scn1 (qK β n) (qI β n) V lw 6001 k none l, [])).2 Sb S1 := by
  have hk1 := hX.2.1
  have hn : skM none := fun i hi => by cases hi
  obtain ⟨S2, hB2, z2⟩ := scan_1 (d := d) (la := k) (lw := lw) hX hF hFM h75 (by omega) mlw 6001 k none l S h hn hk h2 (by omega) (Nat.le_of_lt ha)
  obtain ⟨S1, hB1, z1⟩ := scan_2 (d := d) (lw := lw) hX hF hFM h75 h76 hp mlw 6001 k none (scn1 (qK β n) (qI β n) V lw 6001 k none l, []) S2 z2 hn hk h2 (by omega) ha hbo
  exact ⟨S1, Ans.of (by rw [ml_338]; exact Nat.le_of_ble_eq_true rfl) (zSc_1 (d := d + 3) (by omega) mlw (fun lv q0 q1 q2 q3 q4 => hB2 lv none S1 q0 q1 q2 q3 q4 (fun lv1 p0 p1 p2 => zSd_1 (d := d + 3) p0 p1 p2 (by omega) mlw (fun lv2 s0 s2 s3 s4 => hB1 lv2 s0 s2 s3 s4)))), z1⟩
end
