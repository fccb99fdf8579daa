/-! THE CLASS'S HEAP: delete, whole -/
section
variable {d t x k kd z o w e : Nat} {S : cS} {g : Nat → Nat} {hi lo : Int64}
theorem FrL_wG {L1 L2 L3 : List Nat} {S0 S : cS} {a : Nat} {f : Nat → Int64} (ha : a ∈ L3) (h : FrL L1 L2 L3 S0 S) : FrL L1 L2 L3 S0 (wG a f S) :=
  ⟨h.1, fun b hb => by
    have hne : b ≠ a := fun e => hb (by rw [e]; exact ha)
    rw [rG, if_neg hne]
    exact h.2.1 b hb, h.2.2.1, h.2.2.2.1, h.2.2.2.2.1, h.2.2.2.2.2.1, h.2.2.2.2.2.2.1, h.2.2.2.2.2.2.2⟩
theorem mdel_T (h : mHS 0 g t S) (hR : rwL S) (hk : lv S k) (hkd : sA S 3 k = nI kd) (h7 : kd ≤ 7) (hw : c_width kd = w) (hz : sA S 10 k = nI z) (hz2 : z ≤ 300) (he : e < z) : ∃ X W D, Ans (d + 6) 213 [.ref 2, .int (nI k), .int (nI e)] S none W ∧ chX k D g t S X W ∧ sA X 10 k = nI (z - 1) ∧ (∀ i, i < w * (z - 1) → sL X (h_row S k) i = if i < w * e then sL S (h_row S k) i else sL S (h_row S k) (i + w)) := by
  subst hw
  obtain ⟨a, N, q1, q2, q3, q4, q5, q6, q7, q8, q9⟩ := row_of h hR hk hkd h7 hz hz2 he
  obtain ⟨oo, oo1, oo2, oo3⟩ := q9 e he
  have hkdS : h_kd S k = kd := by unfold h_kd; rw [hkd, gN_nI (by omega)]
  have hbig : c_width kd * e + c_width kd ≤ c_width kd * z := by
    have : c_width kd * (e + 1) ≤ c_width kd * z := Nat.mul_le_mul_left _ he
    rw [Nat.mul_succ] at this
    exact this
  have main : ∀ X : cS, FrL [] [4, 10] [a] S X → sA X 4 = sA S 4 → (∀ j, sA X 10 j = if j = k then nI (z - 1) else sA S 10 j) → (∀ i, i < c_width kd * (z - 1) → sL X a i = if i < c_width kd * e then sL S a i else sL S a (i + c_width kd)) → ∃ W D, Ans (d + 3) 142 [.ref 2, .ref 4, .int (nI oo)] X none W ∧ chX k D g t S X W := by
    intro X hFX h4 h10 hrow
    have e3 : sA X 3 = sA S 3 := hFX.A (by decide)
    have hrX : h_row X k = a := by unfold h_row; rw [hFX.2.2.2.1, q1]; rfl
    have hkdX : h_kd X k = kd := by unfold h_kd; rw [e3]; exact hkdS
    have hnS : h_n S k = z := by unfold h_n h_z; rw [hkdS, if_neg (by omega), hz, gN_nI (by omega)]
    have hnX : h_n X k = z - 1 := by unfold h_n h_z; rw [hkdX, if_neg (by omega), h10, if_pos rfl, gN_nI (by omega)]
    have hlo : ∀ j, j < e → sL X a (h_at (c_width kd) j) = sL S a (h_at (c_width kd) j) ∧ sL X a (h_at (c_width kd) j + 1) = sL S a (h_at (c_width kd) j + 1) := fun j hj => by
      obtain ⟨a1, a2⟩ := h_at_lt q7 hj
      obtain ⟨a3, a4⟩ := h_at_lt q7 (show j < z - 1 by omega)
      rw [hrow _ a4, hrow _ a3, if_pos a2, if_pos a1]
      exact ⟨rfl, rfl⟩
    have hup : ∀ j, e ≤ j → j + 1 < z → sL X a (h_at (c_width kd) j) = sL S a (h_at (c_width kd) (j + 1)) ∧ sL X a (h_at (c_width kd) j + 1) = sL S a (h_at (c_width kd) (j + 1) + 1) := fun j hj hjz => by
      obtain ⟨a3, a4⟩ := h_at_lt q7 (show j < z - 1 by omega)
      have hge : ¬ h_at (c_width kd) j < c_width kd * e ∧ ¬ h_at (c_width kd) j + 1 < c_width kd * e ∧ h_at (c_width kd) j + c_width kd = h_at (c_width kd) (j + 1) ∧ h_at (c_width kd) j + 1 + c_width kd = h_at (c_width kd) (j + 1) + 1 := by
        unfold h_at
        rcases q7 with c | c <;> rw [c] <;> omega
      obtain ⟨g1, g2, g3, g4⟩ := hge
      rw [hrow _ a4, hrow _ a3, if_neg g1, if_neg g2, g3, g4]
      exact ⟨rfl, rfl⟩
    have hentL : ∀ j, j < e → h_ent X k j = h_ent S k j := fun j hj => by
      unfold h_ent h_hi h_lo
      rw [hrX, q6, hkdX, hkdS, (hlo j hj).1, (hlo j hj).2]
    have hentU : ∀ j, e ≤ j → j + 1 < z → h_ent X k j = h_ent S k (j + 1) := fun j h1 h2 => by
      unfold h_ent h_hi h_lo
      rw [hrX, q6, hkdX, hkdS, (hup j h1 h2).1, (hup j h1 h2).2]
    have heS : h_ent S k e = oo := by
      unfold h_ent h_hi h_lo
      rw [q6, hkdS]
      exact ob_n oo2 oo1
    have hcnt : ∀ q, 1 ≤ q → (tgs X k).count q + dl oo q = (tgs S k).count q + dl 0 q := fun q hq => by
      have := seq_del (f := h_ent S k) (g := h_ent X k) (q := q) he hentL hentU
      rw [heS, if_dl hq] at this
      unfold tgs
      rw [hnX, hnS, hFX.A (a := 7) (by decide), hFX.A (a := 8) (by decide), count_cons', count_cons', count_cons', count_cons', dl_0]
      omega
    have hokX : h_ok X k := by
      obtain ⟨kd', z', x', y', b1, b2, b3, b4, b5, b6, b7, b8, b9, b10, b11⟩ := h.1.1 k hk.1 hk.2.1
      have ek : kd' = kd := by
        have := congrArg gN (b2.symm.trans hkd)
        rw [gN_nI (by omega), gN_nI (by omega)] at this
        exact this
      subst ek
      refine ⟨kd', z - 1, x', y', b1, by rw [e3]; exact b2, by rw [h10, if_pos rfl], by rw [hFX.A (by decide)]; exact b4, by rw [hFX.A (by decide)]; exact b5, b6, b7, by omega, (fun c => by omega), (fun c => by rw [hFX.2.2.2.1, q1] at c; cases c), ?_⟩
      rw [hFX.2.2.2.1, hFX.2.2.2.2.1]
      intro b hb
      rw [q1] at hb
      injection hb with hb
      subst hb
      refine ⟨N, q2, q3, by have : c_width kd' * (z - 1) ≤ c_width kd' * z := Nat.mul_le_mul_left _ (by omega); omega, q4, fun j hj => ?_⟩
      by_cases hje : j < e
      · obtain ⟨q, m1, m2, _⟩ := q9 j (by omega)
        rw [(hlo j hje).1, (hlo j hje).2]
        exact ⟨q, m1, m2⟩
      · obtain ⟨q, m1, m2, _⟩ := q9 (j + 1) (by omega)
        rw [(hup j (by omega) (by omega)).1, (hup j (by omega) (by omega)).2]
        exact ⟨q, m1, m2⟩
    have hmem : ∀ q, q ∈ tgs X k → q = 0 ∨ lv S q := fun q hq => by
      unfold tgs at hq
      rw [hnX, hFX.A (a := 7) (by decide), hFX.A (a := 8) (by decide)] at hq
      have hcl := mHS_cl h k hk.1 hk.2.1 hk.2.2
      rcases List.mem_cons.mp hq with c | hq
      · rw [c]; exact hcl _ (by unfold tgs; exact List.mem_cons_self)
      rcases List.mem_cons.mp hq with c | hq
      · rw [c]; exact hcl _ (by unfold tgs; exact List.mem_cons_of_mem _ List.mem_cons_self)
      obtain ⟨j, _, j2, c⟩ := seqN_mem hq
      by_cases hje : j < e
      · rw [c, hentL j hje]
        exact hcl _ (by
          unfold tgs
          rw [hnS]
          exact List.mem_cons_of_mem _ (List.mem_cons_of_mem _ (seqN_in (Nat.zero_le _) (by omega))))
      · rw [c, hentU j (by omega) (by omega)]
        exact hcl _ (by
          unfold tgs
          rw [hnS]
          exact List.mem_cons_of_mem _ (List.mem_cons_of_mem _ (seqN_in (Nat.zero_le _) (by omega))))
    obtain ⟨W, D, r1, r2, r3, r4, r5, r6, r7, r8, r9, r10, r11⟩ := chg_T (d := d) (o := 0) h hR hk q1 q2 hFX (fun q => by rw [h4, dl_0]; exact (Int32.add_zero _).symm) (fun j hj => by rw [h10, if_neg hj]) hokX hcnt oo3 hmem
    exact ⟨W, D, r1, r2, r3, r4, r5, r6, r7, r8, r9, r10, r11, fun b hb => hFX.2.1 b (by simpa using (show b ≠ a by omega)), e3, hFX.A (by decide), hFX.A (by decide), hFX.A (by decide), by rw [hrX, q6]⟩
  by_cases hlast : e + 1 = z
  · have hX : FrL [] [4, 10] [a] S (wA 10 k (nI (z - 1)) S) := FrL_wA (by decide) (FrL.refl _ _ _ _)
    have hr : ∀ i, i < c_width kd * (z - 1) → sL (wA 10 k (nI (z - 1)) S) a i = if i < c_width kd * e then sL S a i else sL S a (i + c_width kd) := fun i hi => by
      rw [if_pos (by rw [show e = z - 1 by omega]; exact hi)]
      rfl
    obtain ⟨W, D, r1, r2⟩ := main (wA 10 k (nI (z - 1)) S) hX rfl (fun j => rfl) hr
    refine ⟨wA 10 k (nI (z - 1)) S, W, D, ?_, r2, if_pos rfl, fun i hi => by rw [q6]; exact hr i hi⟩
    rcases q7 with c | c
    · rw [c] at oo2 hbig q5
      rw [h_at2] at oo2
      exact delL_2 hk.1 hk.2.1 hkd h7 hz q1 q2 q3 (by omega) c he (by omega) (by omega) hlast oo2 (Ans.up (by omega) r1)
    · rw [c] at oo2 hbig q5
      rw [h_at4] at oo2
      exact delL_4 hk.1 hk.2.1 hkd h7 hz q1 q2 q3 (by omega) c he (by omega) (by omega) hlast oo2 (Ans.up (by omega) r1)
  · have cpy : ∀ (f : Nat → Int64) (sp dp n i : Nat), va_cpy f f sp dp n i = if dp ≤ i ∧ i < dp + n then f (sp + (i - dp)) else f i := fun f sp dp n i => rfl
    have hX : ∀ f, FrL [] [4, 10] [a] S (wA 10 k (nI (z - 1)) (wG a f S)) := fun f => FrL_wA (by decide) (FrL_wG List.mem_cons_self (FrL.refl _ _ _ _))
    have hr : ∀ i, i < c_width kd * (z - 1) → sL (wA 10 k (nI (z - 1)) (wG a (va_cpy (sL S a) (sL S a) (c_width kd * e + c_width kd) (c_width kd * e) (c_width kd * z - c_width kd - c_width kd * e)) S)) a i = if i < c_width kd * e then sL S a i else sL S a (i + c_width kd) := fun i hi => by
      show sL (wG a _ S) a i = _
      rw [rG, if_pos rfl, cpy]
      have hmz : c_width kd * (z - 1) = c_width kd * z - c_width kd := by
        obtain ⟨z1, rfl⟩ : ∃ z1, z = z1 + 1 := ⟨z - 1, by omega⟩
        rw [Nat.add_sub_cancel, Nat.mul_succ, Nat.add_sub_cancel]
      by_cases hi2 : i < c_width kd * e
      · rw [if_pos hi2, if_neg (by omega)]
      · rw [if_neg hi2, if_pos (by omega)]
        exact congrArg _ (by omega)
    obtain ⟨W, D, r1, r2⟩ := main _ (hX _) rfl (fun j => rfl) hr
    refine ⟨_, W, D, ?_, r2, if_pos rfl, fun i hi => by rw [q6]; exact hr i hi⟩
    rcases q7 with c | c
    · rw [c] at oo2 hbig q5 r1
      rw [h_at2] at oo2
      exact delM_2 hk.1 hk.2.1 hkd h7 hz q1 q2 q3 (by omega) c he (by omega) (by omega) (by omega) q5 oo2 (Ans.up (by omega) r1)
    · rw [c] at oo2 hbig q5 r1
      rw [h_at4] at oo2
      exact delM_4 hk.1 hk.2.1 hkd h7 hz q1 q2 q3 (by omega) c he (by omega) (by omega) (by omega) q5 oo2 (Ans.up (by omega) r1)
end
