/-! STATEMENTS OF THE REFERENCE: the scan of a function's block: what its lines bind -/
def skv : Option Nat → Int32
  | some i => nI i
  | none => Int32.ofInt (-1)
def skM (sk : Option Nat) : Prop := ∀ i, sk = some i → i < 2 ^ 20
theorem sg_A : ∀ k, k < 40 → 6 ≤ k → (rsg k = 61 ↔ k = 19) ∧ ((23 ≤ k ∧ k ≤ 25) ↔ 256 < rsg k ∧ rsg k % 256 = 61 ∧ (rsg k / 256 = 43 ∨ rsg k / 256 = 45 ∨ rsg k / 256 = 42)) := by decide +kernel
section
variable {β : Nat → Nat} {n : Nat} {V : Nat → Int32} {own0 : Nat → Nat × Nat} {m u k1 : Nat} {S0 Sb S S1 S2 : cS} {H B0 d c w t f b a bo p F la lw : Nat} {l o : List Int32}
/-- to the line's end: first scan -/
theorem nl_1 {sk : Option Nat} {r : Nat} (hX : zX β n V own0 m k1 S0) (h : zE own0 m u S0 H B0 c w t f b S) (hsk : skM sk) (hr : r < k1) (h2 : qK β n r = 2) (mla : la < 2 ^ 20) (mlw : lw < 2 ^ 20) : ∀ (q k : Nat), k + q = r → (∀ j, k ≤ j → j < r → qK β n j ≠ 2) → ∀ (lv : sm_L) (v : Option Value) (Sf : cS), sm_get lv 0 = some (.ref 61) → sm_get lv 1 = some (.int (nI la)) → sm_get lv 2 = some (.int (nI lw)) → sm_get lv 3 = some (.int (nI k)) → sm_get lv 4 = some (.int (skv sk)) → (∀ lv1 : sm_L, sm_get lv1 0 = some (.ref 61) → sm_get lv1 1 = some (.int (nI la)) → sm_get lv1 2 = some (.int (nI lw)) → sm_get lv1 3 = some (.int (nI (r + 1))) → sm_get lv1 4 = some (.int (skv sk)) → Bod (d + 8) 338 5 lv1 [] S v Sf) → Bod (d + 8) 338 331 lv [] S v Sf := by
  intro q
  have hk1 := hX.2.1
  induction q with
  | zero =>
    intro k h1 h3 lv v Sf q0 q1 q2 q3 q4 hB
    obtain rfl : k = r := by omega
    obtain ⟨t1, -⟩ := z_tok hX h (Nat.le_of_lt hr)
    have hlt := rkd_lt (qK β n k)
    cases sk with
    | some i => exact zSc2_1 (d := d) q0 q1 q2 q3 q4 mla mlw (by omega) (hsk i rfl) (by omega) t1 (by omega) (rkd_6.mpr h2) hB
    | none => exact zSc3_1 (d := d) q0 q1 q2 q3 q4 mla mlw (by omega) (by omega) t1 (by omega) (rkd_6.mpr h2) hB
  | succ q ih =>
    intro k h1 h3 lv v Sf q0 q1 q2 q3 q4 hB
    obtain ⟨t1, -⟩ := z_tok hX h (show k ≤ k1 by omega)
    have hlt := rkd_lt (qK β n k)
    have hne : rkd (qK β n k) ≠ 6 := fun e => h3 k (Nat.le_refl _) (by omega) (rkd_6.mp e)
    cases sk with
    | some i => exact zSc2_2 (d := d) q0 q1 q2 q3 q4 mla mlw (by omega) (hsk i rfl) (by omega) t1 (by omega) hne (fun lv1 p0 p1 p2 p3 p4 => ih (k + 1) (by omega) (fun j j1 j2 => h3 j (by omega) j2) lv1 v Sf p0 p1 p2 p3 p4 hB)
    | none => exact zSc3_2 (d := d) q0 q1 q2 q3 q4 mla mlw (by omega) (by omega) t1 (by omega) hne (fun lv1 p0 p1 p2 p3 p4 => ih (k + 1) (by omega) (fun j j1 j2 => h3 j (by omega) j2) lv1 v Sf p0 p1 p2 p3 p4 hB)
/-- a line is begun -/
theorem at_5 {sk : Option Nat} {k : Nat} (hX : zX β n V own0 m k1 S0) (h : zE own0 m u S0 H B0 c w t f b S) (hsk : skM sk) (hk : k ≤ k1) (h2 : qK β n k ≠ 2) (mla : la < 2 ^ 20) (mlw : lw < 2 ^ 20) (lv : sm_L) (v : Option Value) (Sf : cS) (q0 : sm_get lv 0 = some (.ref 61)) (q1 : sm_get lv 1 = some (.int (nI la))) (q2 : sm_get lv 2 = some (.int (nI lw))) (q3 : sm_get lv 3 = some (.int (nI k))) (q4 : sm_get lv 4 = some (.int (skv sk))) (hE : qK β n k = 1 ∨ qI β n k ≤ lw → ∀ lv1 : sm_L, sm_get lv1 0 = some (.ref 61) → sm_get lv1 1 = some (.int (nI la)) → sm_get lv1 2 = some (.int (nI lw)) → Bod (d + 8) 338 354 lv1 [] S v Sf) (hB : qK β n k ≠ 1 → lw < qI β n k → ∀ lv1 : sm_L, sm_get lv1 0 = some (.ref 61) → sm_get lv1 1 = some (.int (nI la)) → sm_get lv1 2 = some (.int (nI lw)) → sm_get lv1 3 = some (.int (nI k)) → sm_get lv1 4 = some (.int (skv (skN (qI β n k) sk))) → Bod (d + 8) 338 45 lv1 [] S v Sf) : Bod (d + 8) 338 5 lv [] S v Sf := by
  have hk1 := hX.2.1
  obtain ⟨t1, -, t3, -⟩ := z_tok hX h hk
  have hlt := rkd_lt (qK β n k)
  have hiM := k_i (k := k) hX
  by_cases e1 : qK β n k = 1
  · have e7 : rkd (qK β n k) = 7 := rkd_7.mpr e1
    cases sk with
    | some i => exact zSa_1 (d := d) q0 q1 q2 q3 q4 mla mlw (by omega) (hsk i rfl) (by omega) t1 (by omega) e7 (hE (Or.inl e1))
    | none => exact zSb_1 (d := d) q0 q1 q2 q3 q4 mla mlw (by omega) (by omega) t1 (by omega) e7 (hE (Or.inl e1))
  · have e7 : rkd (qK β n k) ≠ 7 := fun e => e1 (rkd_7.mp e)
    have t3' := t3 e1 h2
    by_cases e2 : qI β n k ≤ lw
    · cases sk with
      | some i => exact zSa_2 (d := d) q0 q1 q2 q3 q4 mla mlw (by omega) (hsk i rfl) (by omega) t1 (by omega) e7 t3' (by omega) e2 (hE (Or.inr e2))
      | none => exact zSb_2 (d := d) q0 q1 q2 q3 q4 mla mlw (by omega) (by omega) t1 (by omega) e7 t3' (by omega) e2 (hE (Or.inr e2))
    · have hB' := hB e1 (by omega)
      cases sk with
      | some i =>
        by_cases e3 : qI β n k ≤ i
        · have es : skN (qI β n k) (some i) = none := if_pos e3
          rw [es] at hB'
          exact zSa_4 (d := d) q0 q1 q2 q3 q4 mla mlw (by omega) (hsk i rfl) (by omega) t1 (by omega) e7 t3' (by omega) (by omega) e3 hB'
        · have es : skN (qI β n k) (some i) = some i := if_neg e3
          rw [es] at hB'
          exact zSa_3 (d := d) q0 q1 q2 q3 q4 mla mlw (by omega) (hsk i rfl) (by omega) t1 (by omega) e7 t3' (by omega) (by omega) (by omega) hB'
      | none => exact zSb_3 (d := d) q0 q1 q2 q3 q4 mla mlw (by omega) (by omega) t1 (by omega) e7 t3' (by omega) (by omega) hB'
/-- what a line of name and sign binds -/
theorem ln_204 {k : Nat} (hX : zX β n V own0 m k1 S0) (h : zSn own0 m u S0 H B0 c w t f b a bo l o Sb S) (hF : sI Sb 6122 = nI F) (hFM : F < 15) (h75 : sA Sb 75 F = nI a) (hk : k < k1) (h52 : ¬((qK β n k = 46 ∨ qK β n k = 47 ∨ qK β n k = 44 ∨ qK β n k = 55 ∨ (qK β n k = 52 ∧ qK β n (k + 2) = 2)) ∧ qK β n (k + 1) = 3)) (hS : lnS (qK β n) (qI β n) k = none) (ha : a + (lnB (qK β n) V k l).length ≤ 6000) (mla : la < 2 ^ 20) (mlw : lw < 2 ^ 20) : ∃ S1, (∀ (lv : sm_L) (v : Option Value) (Sf : cS), sm_get lv 0 = some (.ref 61) → sm_get lv 1 = some (.int (nI la)) → sm_get lv 2 = some (.int (nI lw)) → sm_get lv 3 = some (.int (nI k)) → sm_get lv 4 = some (.int (Int32.ofInt (-1))) → (∀ lv1 : sm_L, sm_get lv1 0 = some (.ref 61) → sm_get lv1 1 = some (.int (nI la)) → sm_get lv1 2 = some (.int (nI lw)) → sm_get lv1 3 = some (.int (nI k)) → sm_get lv1 4 = some (.int (skv (lnS (qK β n) (qI β n) k))) → Bod (d + 11) 338 331 lv1 [] S1 v Sf) → Bod (d + 11) 338 204 lv [] S v Sf) ∧ zSn own0 m u S0 H B0 c w t f b a bo (lnB (qK β n) V k l) o Sb S1 := by
  have hk1 := hX.2.1
  obtain ⟨t1, -, -, -, t5, t6, -, -⟩ := z_tok hX h.1 (Nat.le_of_lt hk)
  obtain ⟨s1, -, -, -, s5, s6, -, s8⟩ := z_tok hX h.1 (show k + 1 ≤ k1 from hk)
  have hlt := rkd_lt (qK β n k)
  have hlt2 := rkd_lt (qK β n (k + 1))
  unfold lnB at ha ⊢
  rw [if_neg h52] at ha ⊢
  rw [hS]
  by_cases e3 : qK β n k = 3
  · have e31 : rkd (qK β n k) = 1 := rkd_1.mpr e3
    obtain ⟨r, hr, hV⟩ := t6 e3
    by_cases e5 : 6 ≤ qK β n (k + 1) ∧ qK β n (k + 1) < 40
    · have e51 := rkd_5.mpr e5
      have hv := s5.trans (s8 e5.1 e5.2)
      have hrl := rsg_lt _ e5.2
      obtain ⟨g1, g2⟩ := sg_A _ e5.2 e5.1
      by_cases eA : asg (qK β n (k + 1))
      · rw [if_pos ⟨e3, eA⟩] at ha ⊢
        rw [hV] at ha ⊢
        obtain ⟨S1, hA, z1⟩ := bind_ev (d := d + 2) h hF hFM h75 ha (by omega)
        refine ⟨S1, fun lv v Sf q0 q1 q2 q3 q4 hB => ?_, z1⟩
        by_cases e19 : rsg (qK β n (k + 1)) = 61
        · exact zSx_3 (d := d + 3) q0 q1 q2 q3 q4 mla mlw (by omega) (by omega) t1 (by omega) e31 (by omega) s1 (by omega) e51 hv (by omega) e19 (t5.trans hV) (by omega) hA hB
        · have e23 : 23 ≤ qK β n (k + 1) ∧ qK β n (k + 1) ≤ 25 := eA.resolve_left (fun e => e19 (g1.mpr e))
          obtain ⟨y1, y2, y3⟩ := g2.mp e23
          by_cases z43 : rsg (qK β n (k + 1)) / 256 = 43
          · exact zSx_6 (d := d + 3) q0 q1 q2 q3 q4 mla mlw (by omega) (by omega) t1 (by omega) e31 (by omega) s1 (by omega) e51 hv (by omega) e19 y1 y2 z43 (t5.trans hV) (by omega) hA hB
          · by_cases z45 : rsg (qK β n (k + 1)) / 256 = 45
            · exact zSx_7 (d := d + 3) q0 q1 q2 q3 q4 mla mlw (by omega) (by omega) t1 (by omega) e31 (by omega) s1 (by omega) e51 hv (by omega) e19 y1 y2 z43 z45 (t5.trans hV) (by omega) hA hB
            · have z42 : rsg (qK β n (k + 1)) / 256 = 42 := (y3.resolve_left z43).resolve_left z45
              exact zSx_9 (d := d + 3) q0 q1 q2 q3 q4 mla mlw (by omega) (by omega) t1 (by omega) e31 (by omega) s1 (by omega) e51 hv (by omega) e19 y1 y2 z43 z45 z42 (t5.trans hV) (by omega) hA hB
      · rw [if_neg (fun q => eA q.2)] at ha ⊢
        refine ⟨S, fun lv v Sf q0 q1 q2 q3 q4 hB => ?_, h⟩
        have e19 : rsg (qK β n (k + 1)) ≠ 61 := fun e => eA (Or.inl (g1.mp e))
        have n23 : ¬(256 < rsg (qK β n (k + 1)) ∧ rsg (qK β n (k + 1)) % 256 = 61 ∧ (rsg (qK β n (k + 1)) / 256 = 43 ∨ rsg (qK β n (k + 1)) / 256 = 45 ∨ rsg (qK β n (k + 1)) / 256 = 42)) := fun e => eA (Or.inr (g2.mpr e))
        by_cases y1 : 256 < rsg (qK β n (k + 1))
        · by_cases y2 : rsg (qK β n (k + 1)) % 256 = 61
          · exact zSx_8 (d := d + 3) q0 q1 q2 q3 q4 mla mlw (by omega) (by omega) t1 (by omega) e31 (by omega) s1 (by omega) e51 hv (by omega) e19 y1 y2 (fun e => n23 ⟨y1, y2, Or.inl e⟩) (fun e => n23 ⟨y1, y2, Or.inr (Or.inl e)⟩) (fun e => n23 ⟨y1, y2, Or.inr (Or.inr e)⟩) hB
          · exact zSx_5 (d := d + 3) q0 q1 q2 q3 q4 mla mlw (by omega) (by omega) t1 (by omega) e31 (by omega) s1 (by omega) e51 hv (by omega) e19 y1 y2 hB
        · exact zSx_4 (d := d + 3) q0 q1 q2 q3 q4 mla mlw (by omega) (by omega) t1 (by omega) e31 (by omega) s1 (by omega) e51 hv (by omega) e19 (by omega) hB
    · have eA : ¬ (qK β n k = 3 ∧ asg (qK β n (k + 1))) := fun ⟨_, q⟩ => e5 (by unfold asg at q; omega)
      rw [if_neg eA] at ha ⊢
      exact ⟨S, fun lv v Sf q0 q1 q2 q3 q4 hB => zSx_2 (d := d + 3) q0 q1 q2 q3 q4 mla mlw (by omega) (by omega) t1 (by omega) e31 (by omega) s1 (by omega) (fun e => e5 (rkd_5.mp e)) hB, h⟩
  · rw [if_neg (fun q => e3 q.1)] at ha ⊢
    exact ⟨S, fun lv v Sf q0 q1 q2 q3 q4 hB => zSx_1 (d := d + 3) q0 q1 q2 q3 q4 mla mlw (by omega) (by omega) t1 (by omega) (fun e => e3 (rkd_1.mp e)) hB, h⟩
theorem ln_45 {k : Nat} (hX : zX β n V own0 m k1 S0) (h : zSn own0 m u S0 H B0 c w t f b a bo l o Sb S) (hF : sI Sb 6122 = nI F) (hFM : F < 15) (h75 : sA Sb 75 F = nI a) (hk : k < k1) (hK2 : qK β n k ≠ 2) (ha : a + (lnB (qK β n) V k l).length ≤ 6000) (mla : la < 2 ^ 20) (mlw : lw < 2 ^ 20) : ∃ S1, (∀ (lv : sm_L) (v : Option Value) (Sf : cS), sm_get lv 0 = some (.ref 61) → sm_get lv 1 = some (.int (nI la)) → sm_get lv 2 = some (.int (nI lw)) → sm_get lv 3 = some (.int (nI k)) → sm_get lv 4 = some (.int (Int32.ofInt (-1))) → (∀ lv1 : sm_L, sm_get lv1 0 = some (.ref 61) → sm_get lv1 1 = some (.int (nI la)) → sm_get lv1 2 = some (.int (nI lw)) → sm_get lv1 3 = some (.int (nI k)) → sm_get lv1 4 = some (.int (skv (lnS (qK β n) (qI β n) k))) → Bod (d + 11) 338 331 lv1 [] S1 v Sf) → Bod (d + 11) 338 45 lv [] S v Sf) ∧ zSn own0 m u S0 H B0 c w t f b a bo (lnB (qK β n) V k l) o Sb S1 := by
  have hk1 := hX.2.1
  have hK1 : qK β n k ≠ 1 := hX.2.2.2.1 k hk
  obtain ⟨t1, -, t3, -, t5, t6, t7, -⟩ := z_tok hX h.1 (Nat.le_of_lt hk)
  obtain ⟨s1, -, -, -, s5, s6, -, s8⟩ := z_tok hX h.1 (show k + 1 ≤ k1 from hk)
  have hlt := rkd_lt (qK β n k)
  have hlt2 := rkd_lt (qK β n (k + 1))
  have hq64 := (q_lt β n k).2.2.2.2
  have hiM := k_i (k := k) hX
  have e70 := t3 hK1 hK2
  -- through place 45
  have hv : ∀ (lq : Nat), (lq = if qK β n (k + 1) = 3 then 1 else 0) → ∀ (S1 : cS), (∀ (lv : sm_L) (v : Option Value) (Sf : cS), sm_get lv 0 = some (.ref 61) → sm_get lv 1 = some (.int (nI la)) → sm_get lv 2 = some (.int (nI lw)) → sm_get lv 3 = some (.int (nI k)) → sm_get lv 4 = some (.int (Int32.ofInt (-1))) → sm_get lv 5 = some (.int (nI lq)) → (∀ lv1 : sm_L, sm_get lv1 0 = some (.ref 61) → sm_get lv1 1 = some (.int (nI la)) → sm_get lv1 2 = some (.int (nI lw)) → sm_get lv1 3 = some (.int (nI k)) → sm_get lv1 4 = some (.int (skv (lnS (qK β n) (qI β n) k))) → Bod (d + 11) 338 331 lv1 [] S1 v Sf) → Bod (d + 11) 338 69 lv [] S v Sf) → ∀ (lv : sm_L) (v : Option Value) (Sf : cS), sm_get lv 0 = some (.ref 61) → sm_get lv 1 = some (.int (nI la)) → sm_get lv 2 = some (.int (nI lw)) → sm_get lv 3 = some (.int (nI k)) → sm_get lv 4 = some (.int (Int32.ofInt (-1))) → (∀ lv1 : sm_L, sm_get lv1 0 = some (.ref 61) → sm_get lv1 1 = some (.int (nI la)) → sm_get lv1 2 = some (.int (nI lw)) → sm_get lv1 3 = some (.int (nI k)) → sm_get lv1 4 = some (.int (skv (lnS (qK β n) (qI β n) k))) → Bod (d + 11) 338 331 lv1 [] S1 v Sf) → Bod (d + 11) 338 45 lv [] S v Sf := by
    intro lq hlq S1 hg lv v Sf q0 q1 q2 q3 q4 hB
    by_cases e : qK β n (k + 1) = 3
    · rw [if_pos e] at hlq
      subst hlq
      exact zSv_2 (d := d + 3) q0 q1 q2 q3 q4 mla mlw (by omega) (by omega) s1 (by omega) (rkd_1.mpr e) (fun lv1 p0 p1 p2 p3 p4 p5 => hg lv1 v Sf p0 p1 p2 p3 p4 p5 hB)
    · rw [if_neg e] at hlq
      subst hlq
      exact zSv_1 (d := d + 3) q0 q1 q2 q3 q4 mla mlw (by omega) (by omega) s1 (by omega) (fun q => e (rkd_1.mp q)) (fun lv1 p0 p1 p2 p3 p4 p5 => hg lv1 v Sf p0 p1 p2 p3 p4 p5 hB)
  obtain ⟨lq, hlq⟩ : ∃ lq : Nat, lq = if qK β n (k + 1) = 3 then 1 else 0 := ⟨_, rfl⟩
  have hlq2 : lq < 2 ^ 20 := by rw [hlq]; split <;> decide
  have hl0 : qK β n (k + 1) ≠ 3 → lq = 0 := fun e => by rw [hlq, if_neg e]
  have hl1 : qK β n (k + 1) = 3 → lq ≠ 0 := fun e => by rw [hlq, if_pos e]; decide
  by_cases e40 : 40 ≤ qK β n k
  · have e2 : rkd (qK β n k) = 2 := rkd_2.mpr e40
    have h68 := t5.trans (t7 e40)
    by_cases eD : qK β n k = 46 ∨ qK β n k = 47
    · have hS : lnS (qK β n) (qI β n) k = some (qI β n k) := if_pos eD
      by_cases e3 : qK β n (k + 1) = 3
      · have eB : lnB (qK β n) V k l = bindH l (V (k + 1)) := by
          unfold lnB
          rw [if_pos ⟨by omega, e3⟩]
        rw [eB] at ha ⊢
        obtain ⟨r, hr, hV⟩ := s6 e3
        rw [hV] at ha ⊢
        obtain ⟨S1, hA, z1⟩ := bind_ev (d := d + 2) h hF hFM h75 ha (by omega)
        have e70' : sA S1 70 k = nI (qI β n k) := by
          rw [z1.2.2.2.2.2.2.2.1 70 (by decide) (by decide), ← h.2.2.2.2.2.2.2.1 70 (by decide) (by decide)]
          exact e70
        refine ⟨S1, hv lq hlq S1 (fun lv v Sf q0 q1 q2 q3 q4 q5 hB => ?_), z1⟩
        rw [hS] at hB
        rcases eD with e | e
        · exact zSw_3 (d := d + 3) q0 q1 q2 q3 q4 q5 mla mlw (by omega) hlq2 (by omega) t1 (by omega) e2 h68 (by omega) (by omega) (hl1 e3) (by omega) (s5.trans hV) (by omega) hA e70' (by omega) hB
        · exact zSw_11 (d := d + 3) q0 q1 q2 q3 q4 q5 mla mlw (by omega) hlq2 (by omega) t1 (by omega) e2 h68 (by omega) (by omega) (by omega) (hl1 e3) (by omega) (s5.trans hV) (by omega) hA e70' (by omega) hB
      · have eB : lnB (qK β n) V k l = l := by
          unfold lnB
          rw [if_neg (fun q => e3 q.2), if_neg (fun q => by omega)]
        rw [eB] at ha ⊢
        refine ⟨S, hv lq hlq S (fun lv v Sf q0 q1 q2 q3 q4 q5 hB => ?_), h⟩
        rw [hS] at hB
        rcases eD with e | e
        · exact zSw_2 (d := d + 3) q0 q1 q2 q3 q4 q5 mla mlw (by omega) hlq2 (by omega) t1 (by omega) e2 h68 (by omega) (by omega) (hl0 e3) e70 (by omega) hB
        · exact zSw_10 (d := d + 3) q0 q1 q2 q3 q4 q5 mla mlw (by omega) hlq2 (by omega) t1 (by omega) e2 h68 (by omega) (by omega) (by omega) (hl0 e3) e70 (by omega) hB
    · have hS : lnS (qK β n) (qI β n) k = none := if_neg eD
      by_cases e3 : qK β n (k + 1) = 3
      · have hk2 : k + 2 ≤ k1 := q_end hX (k := k + 1) hk (by omega)
        obtain ⟨u1, -⟩ := z_tok hX h.1 hk2
        have hlt3 := rkd_lt (qK β n (k + 2))
        by_cases eC : qK β n k = 44 ∨ qK β n k = 55 ∨ (qK β n k = 52 ∧ qK β n (k + 2) = 2)
        · have eB : lnB (qK β n) V k l = bindH l (V (k + 1)) := by
            unfold lnB
            rw [if_pos ⟨by omega, e3⟩]
          rw [eB] at ha ⊢
          obtain ⟨r, hr, hV⟩ := s6 e3
          rw [hV] at ha ⊢
          obtain ⟨S1, hA, z1⟩ := bind_ev (d := d + 2) h hF hFM h75 ha (by omega)
          refine ⟨S1, hv lq hlq S1 (fun lv v Sf q0 q1 q2 q3 q4 q5 hB => ?_), z1⟩
          rw [hS] at hB
          rcases eC with e | e | ⟨e, e'⟩
          · exact zSw_5 (d := d + 3) q0 q1 q2 q3 q4 q5 mla mlw (by omega) hlq2 (by omega) t1 (by omega) e2 h68 (by omega) (by omega) (by omega) (hl1 e3) (by omega) (by omega) (s5.trans hV) (by omega) hA hB
          · exact zSw_6 (d := d + 3) q0 q1 q2 q3 q4 q5 mla mlw (by omega) hlq2 (by omega) t1 (by omega) e2 h68 (by omega) (by omega) (by omega) (hl1 e3) (by omega) (by omega) (by omega) (s5.trans hV) (by omega) hA hB
          · exact zSw_9 (d := d + 3) q0 q1 q2 q3 q4 q5 mla mlw (by omega) hlq2 (by omega) t1 (by omega) e2 h68 (by omega) (by omega) (by omega) (hl1 e3) (by omega) (by omega) (by omega) (by omega) u1 (by omega) (rkd_6.mpr e') (by omega) (s5.trans hV) (by omega) hA hB
        · obtain ⟨S1, hg, z1⟩ := ln_204 (d := d) hX h hF hFM h75 hk (fun q => by omega) hS ha mla mlw
          refine ⟨S1, hv lq hlq S1 (fun lv v Sf q0 q1 q2 q3 q4 q5 hB => ?_), z1⟩
          by_cases e52 : qK β n k = 52
          · exact zSw_8 (d := d + 3) q0 q1 q2 q3 q4 q5 mla mlw (by omega) hlq2 (by omega) t1 (by omega) e2 h68 (by omega) (by omega) (by omega) (hl1 e3) (by omega) (by omega) (by omega) (by omega) u1 (by omega) (fun q => eC (Or.inr (Or.inr ⟨e52, rkd_6.mp q⟩))) (fun lv1 p0 p1 p2 p3 p4 => hg lv1 v Sf p0 p1 p2 p3 p4 hB)
          · exact zSw_7 (d := d + 3) q0 q1 q2 q3 q4 q5 mla mlw (by omega) hlq2 (by omega) t1 (by omega) e2 h68 (by omega) (by omega) (by omega) (hl1 e3) (by omega) (by omega) (by omega) (fun lv1 p0 p1 p2 p3 p4 => hg lv1 v Sf p0 p1 p2 p3 p4 hB)
      · obtain ⟨S1, hg, z1⟩ := ln_204 (d := d) hX h hF hFM h75 hk (fun q => e3 q.2) hS ha mla mlw
        exact ⟨S1, hv lq hlq S1 (fun lv v Sf q0 q1 q2 q3 q4 q5 hB => zSw_4 (d := d + 3) q0 q1 q2 q3 q4 q5 mla mlw (by omega) hlq2 (by omega) t1 (by omega) e2 h68 (by omega) (by omega) (by omega) (hl0 e3) (fun lv1 p0 p1 p2 p3 p4 => hg lv1 v Sf p0 p1 p2 p3 p4 hB)), z1⟩
  · have hS : lnS (qK β n) (qI β n) k = none := if_neg (by omega)
    obtain ⟨S1, hg, z1⟩ := ln_204 (d := d) hX h hF hFM h75 hk (fun q => by omega) hS ha mla mlw
    exact ⟨S1, hv lq hlq S1 (fun lv v Sf q0 q1 q2 q3 q4 q5 hB => zSw_1 (d := d + 3) q0 q1 q2 q3 q4 q5 mla mlw (by omega) hlq2 (by omega) t1 (by omega) (fun q => e40 (rkd_2.mp q)) (fun lv1 p0 p1 p2 p3 p4 => hg lv1 v Sf p0 p1 p2 p3 p4 hB)), z1⟩
theorem bindH_le (l : List Int32) (x : Int32) : l.length ≤ (bindH l x).length ∧ (bindH l x).length ≤ l.length + 1 := by
  unfold bindH
  split
  · exact ⟨Nat.le_refl _, Nat.le_succ _⟩
  · rw [List.length_append]
    exact ⟨Nat.le_add_right _ _, Nat.le_refl _⟩
theorem lnB_le (K : Nat → Nat) (V : Nat → Int32) (k : Nat) (l : List Int32) : l.length ≤ (lnB K V k l).length ∧ (lnB K V k l).length ≤ l.length + 1 := by
  unfold lnB
  split
  · exact bindH_le _ _
  · split
    · exact bindH_le _ _
    · exact ⟨Nat.le_refl _, Nat.le_succ _⟩
theorem scn1_le (K I : Nat → Nat) (V : Nat → Int32) (ow : Nat) : ∀ (f k : Nat) (sk : Option Nat) (l : List Int32), l.length ≤ (scn1 K I V ow f k sk l).length := by
  intro f
  induction f with
  | zero => intro k sk l; exact Nat.le_refl _
  | succ f ih =>
    intro k sk l
    unfold scn1
    split
    · exact Nat.le_refl _
    · split
      · exact ih _ _ _
      · exact Nat.le_trans (lnB_le K V k l).1 (ih _ _ _)
/-- the first scan -/
theorem scan_1 (hX : zX β n V own0 m k1 S0) (hF : sI Sb 6122 = nI F) (hFM : F < 15) (h75 : sA Sb 75 F = nI a) (mla : la < 2 ^ 20) (mlw : lw < 2 ^ 20) : ∀ (g k : Nat) (sk : Option Nat) (l : List Int32) (S : cS), zSn own0 m u S0 H B0 c w t f b a bo l o Sb S → skM sk → k ≤ k1 → qK β n k ≠ 2 → k1 < k + g → a + (scn1 (qK β n) (qI β n) V lw g k sk l).length ≤ 6000 → ∃ S1, (∀ (lv : sm_L) (v : Option Value) (Sf : cS), sm_get lv 0 = some (.ref 61) → sm_get lv 1 = some (.int (nI la)) → sm_get lv 2 = some (.int (nI lw)) → sm_get lv 3 = some (.int (nI k)) → sm_get lv 4 = some (.int (skv sk)) → (∀ lv1 : sm_L, sm_get lv1 0 = some (.ref 61) → sm_get lv1 1 = some (.int (nI la)) → sm_get lv1 2 = some (.int (nI lw)) → Bod (d + 11) 338 354 lv1 [] S1 v Sf) → Bod (d + 11) 338 5 lv [] S v Sf) ∧ zSn own0 m u S0 H B0 c w t f b a bo (scn1 (qK β n) (qI β n) V lw g k sk l) o Sb S1 := by
  intro g
  have hk1 := hX.2.1
  have hkE := hX.2.2.1
  induction g with
  | zero => intro k sk l S h hsk hk h2 hg; omega
  | succ g ih =>
    intro k sk l S h hsk hk h2 hg hroom
    have hiM := k_i (k := k) hX
    by_cases e1 : qK β n k = 1 ∨ qI β n k ≤ lw
    · have eP : scn1 (qK β n) (qI β n) V lw (g + 1) k sk l = l := if_pos e1
      rw [eP]
      exact ⟨S, fun lv v Sf q0 q1 q2 q3 q4 hB => at_5 (d := d + 3) hX h.1 hsk hk h2 mla mlw lv v Sf q0 q1 q2 q3 q4 (fun _ => hB) (fun e _ => by omega), h⟩
    · have e1' : qK β n k ≠ 1 := fun e => e1 (Or.inl e)
      obtain ⟨r, r1, r2, r3, r4, r5, r6⟩ := nx_ok hkE hX.2.2.2.1 k1 k (by omega) hk e1'
      have hnx : nxK (qK β n) 6001 k = r + 1 := r6 6001 (by omega)
      have hkl : k < k1 := by omega
      have hr2 := q_22 r3
      cases hs : skN (qI β n k) sk with
      | some i =>
        have hsi : sk = some i := by
          unfold skN at hs
          split at hs
          · split at hs
            · cases hs
            · exact hs
          · cases hs
        have eP : scn1 (qK β n) (qI β n) V lw (g + 1) k sk l = scn1 (qK β n) (qI β n) V lw g (r + 1) (some i) l := by
          show (if qK β n k = 1 ∨ qI β n k ≤ lw then l else match skN (qI β n k) sk with
            | some i => scn1 (qK β n) (qI β n) V lw g (nxK (qK β n) 6001 k) (some i) l
            | none => _) = _
          rw [if_neg e1, hs, hnx]
        rw [eP] at hroom ⊢
        have hsk' : skM (some i) := by rw [← hsi]; exact hsk
        obtain ⟨S1, hB1, z1⟩ := ih (r + 1) (some i) l S h hsk' (by omega) hr2 (by omega) hroom
        refine ⟨S1, fun lv v Sf q0 q1 q2 q3 q4 hB => at_5 (d := d + 3) hX h.1 hsk hk h2 mla mlw lv v Sf q0 q1 q2 q3 q4 (fun e => absurd e e1) (fun _ _ lv1 p0 p1 p2 p3 p4 => ?_), z1⟩
        rw [hs] at p4
        exact zSu_1 (d := d + 3) p0 p1 p2 p3 p4 mla mlw (by omega) (hsk' i rfl) (fun lv2 s0 s1 s2 s3 s4 => nl_1 (d := d + 3) hX h.1 hsk' r2 r3 mla mlw (r - k) k (by omega) (fun j j1 j2 => (r4 j j1 j2).1) lv2 v Sf s0 s1 s2 s3 s4 (fun lv3 t0 t1 t2 t3 t4 => hB1 lv3 v Sf t0 t1 t2 t3 t4 hB))
      | none =>
        have eP : scn1 (qK β n) (qI β n) V lw (g + 1) k sk l = scn1 (qK β n) (qI β n) V lw g (r + 1) (lnS (qK β n) (qI β n) k) (lnB (qK β n) V k l) := by
          show (if qK β n k = 1 ∨ qI β n k ≤ lw then l else match skN (qI β n k) sk with
            | some i => scn1 (qK β n) (qI β n) V lw g (nxK (qK β n) 6001 k) (some i) l
            | none => _) = _
          rw [if_neg e1, hs, hnx]
        rw [eP] at hroom ⊢
        have hln := scn1_le (qK β n) (qI β n) V lw g (r + 1) (lnS (qK β n) (qI β n) k) (lnB (qK β n) V k l)
        have hsk' : skM (lnS (qK β n) (qI β n) k) := fun i hi => by
          unfold lnS at hi
          split at hi
          · injection hi with hi
            omega
          · cases hi
        obtain ⟨S2, hB2, z2⟩ := ln_45 (d := d) hX h hF hFM h75 hkl h2 (by omega) mla mlw
        obtain ⟨S1, hB1, z1⟩ := ih (r + 1) (lnS (qK β n) (qI β n) k) (lnB (qK β n) V k l) S2 z2 hsk' (by omega) hr2 (by omega) hroom
        refine ⟨S1, fun lv v Sf q0 q1 q2 q3 q4 hB => at_5 (d := d + 3) hX h.1 hsk hk h2 mla mlw lv v Sf q0 q1 q2 q3 q4 (fun e => absurd e e1) (fun _ _ lv1 p0 p1 p2 p3 p4 => ?_), z1⟩
        rw [hs] at p4
        exact hB2 lv1 v Sf p0 p1 p2 p3 p4 (fun lv2 s0 s1 s2 s3 s4 => nl_1 (d := d + 3) hX z2.1 hsk' r2 r3 mla mlw (r - k) k (by omega) (fun j j1 j2 => (r4 j j1 j2).1) lv2 v Sf s0 s1 s2 s3 s4 (fun lv3 t0 t1 t2 t3 t4 => hB1 lv3 v Sf t0 t1 t2 t3 t4 hB))
end
