/-! THE CLASS'S HEAP: set, delete, whole -/
section
variable {d t x k kd z o w e : Nat} {S : cS} {g : Nat → Nat} {hi lo : Int64}
/-- S with one object changed (k), from there D goes: W -/
def chX (k : Nat) (D : List Nat) (g : Nat → Nat) (t : Nat) (S X W : cS) : Prop := mHS 0 g t W ∧ rwL W ∧ CFm S W ∧ KX D X W ∧ sL W = sL X ∧ (∀ j, 1 ≤ j → j ≤ 1500 → j ≠ k → obE S X j) ∧ h_cl X ∧ (∀ j, 1 ≤ j → j ≤ 1500 → h_ok X j) ∧ (∀ q, q ∈ D → g q = 0 ∧ stE t S q = 0 ∧ nmE S q = 0) ∧ (∀ q, lv X q ↔ lv S q) ∧ (∀ a, a < 108 → sL X a = sL S a) ∧ sA X 3 = sA S 3 ∧ sA X 7 = sA S 7 ∧ sA X 8 = sA S 8 ∧ sA X 9 = sA S 9 ∧ h_row X k = h_row S k
/-- the row of an object with entries -/
theorem row_of (h : mHS x g t S) (hR : rwL S) (hk : lv S k) (hkd : sA S 3 k = nI kd) (h7 : kd ≤ 7) (hz : sA S 10 k = nI z) (hz2 : z ≤ 300) (he : e < z) : ∃ a N, sQ S 11 k = some a ∧ 108 ≤ a ∧ (sS S)[a - 108]? = some (1, N) ∧ N ≤ 600 ∧ c_width kd * z ≤ N ∧ h_row S k = a ∧ (c_width kd = 2 ∨ c_width kd = 4) ∧ z ≤ c_most kd ∧ ∀ i, i < z → ∃ o, o ≤ 1500 ∧ c_obj (sL S a (h_at (c_width kd) i)) (sL S a (h_at (c_width kd) i + 1)) = nI o ∧ (o = 0 ∨ lv S o) := by
  obtain ⟨kd', z', x', y', b1, b2, b3, b4, b5, b6, b7, b8, b9, b10, b11⟩ := h.1.1 k hk.1 hk.2.1
  have ek : kd' = kd := by
    have := congrArg gN (b2.symm.trans hkd)
    rw [gN_nI (by omega), gN_nI (by omega)] at this
    exact this
  have ez : z' = z := by
    have := congrArg gN (b3.symm.trans hz)
    rw [gN_nI (by have := c_most_le kd'; omega), gN_nI (by omega)] at this
    exact this
  subst ek
  subst ez
  cases hq : sQ S 11 k with
  | none => have := b10 hq; omega
  | some a =>
    obtain ⟨N, m1, m2, m3, m4, m5⟩ := b11 a hq
    have hw2 : c_width kd' = 2 ∨ c_width kd' = 4 := by
      rcases c_width_or kd' with c | c | c
      · have := b9 c; omega
      · exact Or.inl c
      · exact Or.inr c
    have hrow : h_row S k = a := by unfold h_row; rw [hq]; rfl
    have hkdS : h_kd S k = kd' := by unfold h_kd; rw [hkd, gN_nI (by omega)]
    refine ⟨a, N, rfl, m1, m2, m4, m3, hrow, hw2, b8, fun i hi => ?_⟩
    obtain ⟨o, o1, o2⟩ := m5 i hi
    refine ⟨o, o1, o2, ?_⟩
    have hm : o ∈ tgs S k := by
      unfold tgs
      have : h_n S k = z' := by
        unfold h_n h_z
        rw [hkdS, if_neg (by omega), hz, gN_nI (by omega)]
      rw [this]
      have he2 : h_ent S k i = o := by
        unfold h_ent h_hi h_lo
        rw [hrow, hkdS]
        exact ob_n o2 o1
      rw [← he2]
      exact List.mem_cons_of_mem _ (List.mem_cons_of_mem _ (seqN_in (Nat.zero_le _) (by omega)))
    rcases mHS_cl h k hk.1 hk.2.1 hk.2.2 o hm with c | c
    · exact Or.inl c
    · exact Or.inr c
theorem mset_T (h : mHS 0 g t S) (hR : rwL S) (hk : lv S k) (hkd : sA S 3 k = nI kd) (h7 : kd ≤ 7) (hw : c_width kd = w) (hz : sA S 10 k = nI z) (hz2 : z ≤ 300) (he : e < z) (ho : c_obj hi lo = nI o) (hol : o = 0 ∨ lv S o) : ∃ X W D, Ans (d + 6) 174 [.ref 2, .int (nI k), .int (nI e), .long hi, .long lo] S none W ∧ chX k D g t S X W ∧ sA X 10 k = nI z ∧ (∀ i, i < w * z → i ≠ h_at w e → i ≠ h_at w e + 1 → sL X (h_row S k) i = sL S (h_row S k) i) ∧ sL X (h_row S k) (h_at w e) = hi ∧ sL X (h_row S k) (h_at w e + 1) = lo := by
  subst hw
  obtain ⟨a, N, q1, q2, q3, q4, q5, q6, q7, q8, q9⟩ := row_of h hR hk hkd h7 hz hz2 he
  have ho2 : o ≤ 1500 := by rcases hol with c | c; omega; exact c.2.1
  obtain ⟨oo, oo1, oo2, oo3⟩ := q9 e he
  have hkdS : h_kd S k = kd := by unfold h_kd; rw [hkd, gN_nI (by omega)]
  obtain ⟨p1, p2⟩ := h_at_lt q7 he
  -- the state ahead of release
  have main : ∀ X : cS, FrL [] [4, 10] [a] S X → (∀ q, sA X 4 q = sA S 4 q + nI (dl o q)) → sA X 10 = sA S 10 → (∀ i, i ≠ h_at (c_width kd) e → i ≠ h_at (c_width kd) e + 1 → sL X a i = sL S a i) → sL X a (h_at (c_width kd) e) = hi → sL X a (h_at (c_width kd) e + 1) = lo → ∃ W D, Ans (d + 3) 142 [.ref 2, .ref 4, .int (nI oo)] X none W ∧ chX k D g t S X W := by
    intro X hFX h4 h10 hold hh hl
    have e3 : sA X 3 = sA S 3 := hFX.A (by decide)
    have hrX : h_row X k = a := by unfold h_row; rw [hFX.2.2.2.1, q1]; rfl
    have hkdX : h_kd X k = kd := by unfold h_kd; rw [e3]; exact hkdS
    have hnS : h_n S k = z := by unfold h_n h_z; rw [hkdS, if_neg (by omega), hz, gN_nI (by omega)]
    have hnX : h_n X k = z := by unfold h_n h_z; rw [hkdX, if_neg (by omega), h10, hz, gN_nI (by omega)]
    have hat : ∀ j, j < z → j ≠ e → h_at (c_width kd) j ≠ h_at (c_width kd) e ∧ h_at (c_width kd) j ≠ h_at (c_width kd) e + 1 ∧ h_at (c_width kd) j + 1 ≠ h_at (c_width kd) e ∧ h_at (c_width kd) j + 1 ≠ h_at (c_width kd) e + 1 := fun j _ hj => by
      unfold h_at
      rcases q7 with c | c <;> rw [c] <;> omega
    have hent : ∀ j, j < z → j ≠ e → h_ent X k j = h_ent S k j := fun j hj hje => by
      obtain ⟨b1, b2, b3, b4⟩ := hat j hj hje
      unfold h_ent h_hi h_lo
      rw [hrX, q6, hkdX, hkdS, hold _ b1 b2, hold _ b3 b4]
    have heX : h_ent X k e = o := by
      unfold h_ent h_hi h_lo
      rw [hrX, hkdX, hh, hl]
      exact ob_n ho ho2
    have heS : h_ent S k e = oo := by
      unfold h_ent h_hi h_lo
      rw [q6, hkdS]
      exact ob_n oo2 oo1
    have hcnt : ∀ q, 1 ≤ q → (tgs X k).count q + dl oo q = (tgs S k).count q + dl o q := fun q hq => by
      have := seq_set (f := h_ent S k) (g := h_ent X k) (q := q) he hent
      rw [heX, heS, if_dl hq, if_dl hq] at this
      unfold tgs
      rw [hnX, hnS, hFX.A (a := 7) (by decide), hFX.A (a := 8) (by decide), count_cons', count_cons', count_cons', count_cons']
      omega
    have hokX : h_ok X k := by
      obtain ⟨kd', z', x', y', b1, b2, b3, b4, b5, b6, b7, b8, b9, b10, b11⟩ := h.1.1 k hk.1 hk.2.1
      have ek : kd' = kd := by
        have := congrArg gN (b2.symm.trans hkd)
        rw [gN_nI (by omega), gN_nI (by omega)] at this
        exact this
      have ez : z' = z := by
        have := congrArg gN (b3.symm.trans hz)
        rw [gN_nI (by have := c_most_le kd'; omega), gN_nI (by omega)] at this
        exact this
      subst ek
      subst ez
      refine ⟨kd', z', x', y', b1, by rw [e3]; exact b2, by rw [h10]; exact b3, by rw [hFX.A (by decide)]; exact b4, by rw [hFX.A (by decide)]; exact b5, b6, b7, b8, b9, by rw [hFX.2.2.2.1]; exact b10, ?_⟩
      rw [hFX.2.2.2.1, hFX.2.2.2.2.1]
      intro b hb
      rw [q1] at hb
      injection hb with hb
      subst hb
      refine ⟨N, q2, q3, q5, q4, fun j hj => ?_⟩
      by_cases hje : j = e
      · subst hje
        rw [hh, hl]
        exact ⟨o, ho2, ho⟩
      · obtain ⟨c1, c2, c3, c4⟩ := hat j hj hje
        rw [hold _ c1 c2, hold _ c3 c4]
        obtain ⟨q, m1, m2, _⟩ := q9 j hj
        exact ⟨q, m1, m2⟩
    have hmem : ∀ q, q ∈ tgs X k → q = 0 ∨ lv S q := fun q hq => by
      unfold tgs at hq
      rw [hnX, hFX.A (a := 7) (by decide), hFX.A (a := 8) (by decide)] at hq
      have hcl := mHS_cl h k hk.1 hk.2.1 hk.2.2
      rcases List.mem_cons.mp hq with c | hq
      · rw [c]; exact hcl _ (by unfold tgs; exact List.mem_cons_self)
      rcases List.mem_cons.mp hq with c | hq
      · rw [c]; exact hcl _ (by unfold tgs; exact List.mem_cons_of_mem _ List.mem_cons_self)
      obtain ⟨j, _, j2, c⟩ := seqN_mem hq
      by_cases hje : j = e
      · rw [c, hje, heX]
        exact hol
      · rw [c, hent j (by omega) hje]
        exact hcl _ (by
          unfold tgs
          rw [hnS]
          exact List.mem_cons_of_mem _ (List.mem_cons_of_mem _ (seqN_in (Nat.zero_le _) (by omega))))
    obtain ⟨W, D, r1, r2, r3, r4, r5, r6, r7, r8, r9, r10, r11⟩ := chg_T (d := d) h hR hk q1 q2 hFX h4 (fun j _ => by rw [h10]) hokX hcnt oo3 hmem
    exact ⟨W, D, r1, r2, r3, r4, r5, r6, r7, r8, r9, r10, r11, fun b hb => hFX.2.1 b (by simpa using (show b ≠ a by omega)), e3, hFX.A (by decide), hFX.A (by decide), hFX.A (by decide), by rw [hrX, q6]⟩
  have hl : c_width kd * e + c_width kd ≤ N := by
    have : c_width kd * (e + 1) ≤ c_width kd * z := Nat.mul_le_mul_left _ he
    rw [Nat.mul_succ] at this
    omega
  have hFX : ∀ i j : Nat, FrL [] [4, 10] [a] S (wL a i lo (wL a j hi (c_hold 4 o S))) := fun i j => FrL_wL List.mem_cons_self (FrL_wL List.mem_cons_self ((hold4_F o S).mono (by decide) (by decide) (by intro b hb; cases hb)))
  rcases q7 with c | c
  · rw [c] at main oo2 hl ⊢
    obtain ⟨W, D, r1, r2⟩ := main (wL a (2 * e + 1) lo (wL a (2 * e) hi (c_hold 4 o S))) (hFX _ _) (fun q => by rw [← hold4_at]; rfl) (by rw [show sA (wL a (2 * e + 1) lo (wL a (2 * e) hi (c_hold 4 o S))) 10 = sA (c_hold 4 o S) 10 from rfl, (hold4_F o S).A (by decide)]) (fun i h1 h2 => by rw [h_at2] at h1 h2; rw [wL_at, if_neg (by omega), wL_at, if_neg (by omega), rL_hold]) (by rw [h_at2, wL_at, if_neg (by omega), wL_at, if_pos rfl]) (by rw [h_at2, wL_at, if_pos rfl])
    rw [h_at2] at oo2 ⊢
    refine ⟨_, W, D, set_2 hk.1 hk.2.1 hkd h7 hz q1 q2 q3 (by omega) c he (by omega) hl ho ho2 oo2 (Ans.up (by omega) r1), r2, by rw [show sA (wL a (2 * e + 1) lo (wL a (2 * e) hi (c_hold 4 o S))) 10 = sA (c_hold 4 o S) 10 from rfl, (hold4_F o S).A (by decide)]; exact hz, fun i _ h1 h2 => by rw [q6, wL_at, if_neg (by omega), wL_at, if_neg (by omega), rL_hold], by rw [q6, wL_at, if_neg (by omega), wL_at, if_pos rfl], by rw [q6, wL_at, if_pos rfl]⟩
  · rw [c] at main oo2 hl ⊢
    obtain ⟨W, D, r1, r2⟩ := main (wL a (4 * e + 3) lo (wL a (4 * e + 2) hi (c_hold 4 o S))) (hFX _ _) (fun q => by rw [← hold4_at]; rfl) (by rw [show sA (wL a (4 * e + 3) lo (wL a (4 * e + 2) hi (c_hold 4 o S))) 10 = sA (c_hold 4 o S) 10 from rfl, (hold4_F o S).A (by decide)]) (fun i h1 h2 => by rw [h_at4] at h1 h2; rw [wL_at, if_neg (by omega), wL_at, if_neg (by omega), rL_hold]) (by rw [h_at4, wL_at, if_neg (by omega), wL_at, if_pos rfl]) (by rw [h_at4, show 4 * e + 2 + 1 = 4 * e + 3 by omega, wL_at, if_pos rfl])
    rw [h_at4] at oo2 ⊢
    refine ⟨_, W, D, set_4 hk.1 hk.2.1 hkd h7 hz q1 q2 q3 (by omega) c he (by omega) hl ho ho2 oo2 (Ans.up (by omega) r1), r2, by rw [show sA (wL a (4 * e + 3) lo (wL a (4 * e + 2) hi (c_hold 4 o S))) 10 = sA (c_hold 4 o S) 10 from rfl, (hold4_F o S).A (by decide)]; exact hz, fun i _ h1 h2 => by rw [q6, wL_at, if_neg (by omega), wL_at, if_neg (by omega), rL_hold], by rw [q6, wL_at, if_neg (by omega), wL_at, if_pos rfl], by rw [q6, show 4 * e + 2 + 1 = 4 * e + 3 by omega, wL_at, if_pos rfl]⟩
end
