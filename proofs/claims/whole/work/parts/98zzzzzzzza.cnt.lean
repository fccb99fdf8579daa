/-! THE CLASS'S HEAP: an object's row changes and nothing goes -/
section
variable {d t x k kd z o w e a N : Nat} {S X : cS} {g : Nat → Nat} {hi lo : Int64}
theorem cnt_HS (h : mHS x g t S) (hR : rwL S) (hk : lv S k) (hq : sQ S 11 k = some a) (ha : 108 ≤ a) (hFX : FrL [] [4, 10] [a] S X) (h4 : ∀ q, sA X 4 q = sA S 4 q + nI (dl o q)) (h10 : ∀ j, j ≠ k → sA X 10 j = sA S 10 j) (hokX : h_ok X k) (hcnt : ∀ q, 1 ≤ q → (tgs X k).count q = (tgs S k).count q + dl o q) (hmem : ∀ q, q ∈ tgs X k → q = 0 ∨ lv S q) : mHS x g t X ∧ rwL X ∧ CFm S X ∧ (∀ j, 1 ≤ j → j ≤ 1500 → j ≠ k → obE S X j) ∧ (∀ q, 1 ≤ q → heldBy X q = heldBy S q + dl o q) ∧ (∀ b, b < 108 → sL X b = sL S b) := by
  have e3 : sA X 3 = sA S 3 := hFX.A (by decide)
  have hQ : sQ X = sQ S := hFX.2.2.2.1
  have hrw : ∀ j, h_row X j = h_row S j := fun j => by unfold h_row; rw [hQ]
  have hne : ∀ j, 1 ≤ j → j ≤ 1500 → j ≠ k → h_row S j ≠ a := fun j j1 j2 hj c => by
    unfold h_row at c
    cases hq0 : sQ S 11 j with
    | none => rw [hq0] at c; have : (0 : Nat) = a := c; omega
    | some b =>
      rw [hq0] at c
      have c' : b = a := c
      subst c'
      exact hj (h.1.2.2.2.2.1 j k b j2 hk.2.1 hq0 hq)
  have hob : ∀ j, 1 ≤ j → j ≤ 1500 → j ≠ k → obE S X j := fun j j1 j2 hj => obE_of (by rw [e3]) (by rw [hFX.A (by decide)]) (by rw [hFX.A (by decide)]) (by rw [hFX.A (by decide)]) (h10 j hj) (hrw j) (hFX.2.1 _ (by simpa using hne j j1 j2 hj))
  have hL : ∀ b, b < 108 → sL X b = sL S b := fun b hb => hFX.2.1 b (by simpa using (show b ≠ a by omega))
  have hh : ∀ q, 1 ≤ q → heldBy X q = heldBy S q + dl o q := fun q hq1 => by
    have := held_ch (q := q) hk.1 hk.2.1 (Hp_0 h.1) hk.2.2 e3 hob
    have := hcnt q hq1
    omega
  have hok : ∀ j, 1 ≤ j → j ≤ 1500 → h_ok X j := fun j j1 j2 => by
    by_cases hj : j = k
    · rw [hj]; exact hokX
    · obtain ⟨kd', z', x', y', b1, b2, b3, b4, b5, b6, b7, b8, b9, b10, b11⟩ := h.1.1 j j1 j2
      refine ⟨kd', z', x', y', b1, by rw [e3]; exact b2, by rw [h10 j hj]; exact b3, by rw [hFX.A (by decide)]; exact b4, by rw [hFX.A (by decide)]; exact b5, b6, b7, b8, b9, by rw [hQ]; exact b10, ?_⟩
      rw [hQ, hFX.2.2.2.2.1]
      intro b hb
      have hba : b ≠ a := fun e => hne j j1 j2 hj (by unfold h_row; rw [hb]; exact e)
      rw [hFX.2.1 b (by simpa using hba)]
      exact b11 b hb
  have hP : Hp no_e (nmE S) (fun k => stE t S k + g k) X := Hp_ch (k := k) h.1 e3 hob (fun i _ => hFX.I List.not_mem_nil) (hFX.A (by decide)) (hFX.A (by decide)) hok (by unfold h_ds; rw [hQ]; exact h.1.2.2.2.2.1) (fun _ => hmem) (fun q q1 q2 => by
    obtain ⟨p4, p5, p6, p7, p8, p9⟩ := h.1.2.2.2.2.2 q q1 q2
    refine ⟨?_, by rw [hFX.A (by decide)]; exact p5, by rw [hFX.A (by decide)]; exact p6, p7, p8, p9⟩
    have := hh q q1
    rw [h4 q, p4, nI_add]
    exact congrArg nI (by unfold no_e; omega))
  have hCX : CFm S X := by
    have e1 : rwC X = rwC S := sumN_congr (fun k _ => by rw [rlen_S hQ hFX.2.2.2.2.1])
    have e2 : rwN X = rwN S := sumN_congr (fun k _ => by rw [rlen_S hQ hFX.2.2.2.2.1])
    exact ⟨hFX.1, hFX.2.2.1, fun i _ => hFX.I List.not_mem_nil, fun b hb => hFX.A (fun c => hb (by
      rcases List.mem_cons.mp c with e | c
      · rw [e]; decide
      · rw [List.mem_singleton.mp c]; decide)), fun b hb _ => hL b hb, fun b _ _ hb => hFX.2.1 b (by simpa using (fun e : b = a => hb k hk.2.1 (by rw [e]; exact hq))), fun b _ => by rw [hQ], ⟨[], by rw [hFX.2.2.2.2.1, List.append_nil]⟩, fun j b _ hb => Or.inl (by rw [← hQ]; exact hb), by rw [hFX.2.2.2.2.2.1, e1]; omega, by rw [hFX.2.2.2.2.1, e2]; omega⟩
  have hRX : rwL X := fun j b hj hb => by
    rw [hQ] at hb
    rw [hFX.2.2.2.2.1]
    exact hR j b hj hb
  have h108 : ∀ b, b ∈ [21, 22, 47, 48] → b < 108 := by decide
  exact ⟨mHS_ch h (fun i _ => hFX.I List.not_mem_nil) (fun b hb => hL b (h108 b hb)) e3 hP (fun q hq1 _ => by rw [hh q hq1.1]; omega), hRX, hCX, hob, hh, hL⟩
/-- what was not bound is bound -/
theorem mfill_T (h : mHS x g t S) (hR : rwL S) (hk : lv S k) (hkd : sA S 3 k = nI 7) (hz : sA S 10 k = nI z) (hz2 : z ≤ 300) (he : e < z) (hu : sL S (h_row S k) (2 * e) = 0 ∧ sL S (h_row S k) (2 * e + 1) = 0) (ho : c_obj hi lo = nI o) (hol : o = 0 ∨ lv S o) : ∃ X, Ans (d + 3) 260 [.ref 2, .int (nI k), .int (nI e), .long hi, .long lo] S none X ∧ mHS x g t X ∧ rwL X ∧ CFm S X ∧ (∀ j, 1 ≤ j → j ≤ 1500 → j ≠ k → obE S X j) ∧ (∀ q, 1 ≤ q → heldBy X q = heldBy S q + dl o q) ∧ apF S X ∧ sA X 10 = sA S 10 ∧ h_row X k = h_row S k ∧ (∀ i, i ≠ 2 * e → i ≠ 2 * e + 1 → sL X (h_row S k) i = sL S (h_row S k) i) ∧ sL X (h_row S k) (2 * e) = hi ∧ sL X (h_row S k) (2 * e + 1) = lo := by
  obtain ⟨a, N, q1, q2, q3, q4, q5, q6, q7, q8, q9⟩ := row_of h hR hk hkd (by omega) hz hz2 he
  have hw : c_width 7 = 2 := rfl
  rw [hw] at q5 q9
  have ho2 : o ≤ 1500 := by rcases hol with c | c; omega; exact c.2.1
  have hA := fill_2 (d := d) hk.1 hk.2.1 hkd (by omega) hz q1 q2 q3 (by omega) rfl he (by omega) (by omega) ho ho2
  have hFX : FrL [] [4, 10] [a] S (wL a (2 * e + 1) lo (wL a (2 * e) hi (c_hold 4 o S))) := FrL_wL List.mem_cons_self (FrL_wL List.mem_cons_self ((hold4_F o S).mono (by decide) (by decide) (by intro b hb; cases hb)))
  have h4 : ∀ q, sA (wL a (2 * e + 1) lo (wL a (2 * e) hi (c_hold 4 o S))) 4 q = sA S 4 q + nI (dl o q) := fun q => by rw [← hold4_at]; rfl
  have h10 : sA (wL a (2 * e + 1) lo (wL a (2 * e) hi (c_hold 4 o S))) 10 = sA S 10 := by
    rw [show sA (wL a (2 * e + 1) lo (wL a (2 * e) hi (c_hold 4 o S))) 10 = sA (c_hold 4 o S) 10 from rfl, (hold4_F o S).A (by decide)]
  have hf : ∀ b, b ≠ 4 → sA (wL a (2 * e + 1) lo (wL a (2 * e) hi (c_hold 4 o S))) b = sA S b := fun b hb => by
    rw [show sA (wL a (2 * e + 1) lo (wL a (2 * e) hi (c_hold 4 o S))) b = sA (c_hold 4 o S) b from rfl, (hold4_F o S).A (by simpa using hb)]
  have hold : ∀ i, i ≠ 2 * e → i ≠ 2 * e + 1 → sL (wL a (2 * e + 1) lo (wL a (2 * e) hi (c_hold 4 o S))) a i = sL S a i := fun i h1 h2 => by rw [wL_at, if_neg h2, wL_at, if_neg h1, rL_hold]
  have hh : sL (wL a (2 * e + 1) lo (wL a (2 * e) hi (c_hold 4 o S))) a (2 * e) = hi := by rw [wL_at, if_neg (by omega), wL_at, if_pos rfl]
  have hl : sL (wL a (2 * e + 1) lo (wL a (2 * e) hi (c_hold 4 o S))) a (2 * e + 1) = lo := by rw [wL_at, if_pos rfl]
  generalize wL a (2 * e + 1) lo (wL a (2 * e) hi (c_hold 4 o S)) = X at hA hFX h4 h10 hf hold hh hl
  have e3 : sA X 3 = sA S 3 := hf 3 (by decide)
  have hkdS : h_kd S k = 7 := by unfold h_kd; rw [hkd, gN_nI (by omega)]
  have hkdX : h_kd X k = 7 := by unfold h_kd; rw [e3]; exact hkdS
  have hrX : h_row X k = a := by unfold h_row; rw [hFX.2.2.2.1, q1]; rfl
  have hnS : h_n S k = z := by unfold h_n h_z; rw [hkdS, hw, if_neg (by omega), hz, gN_nI (by omega)]
  have hnX : h_n X k = z := by unfold h_n h_z; rw [hkdX, hw, if_neg (by omega), h10, hz, gN_nI (by omega)]
  have hent : ∀ j, j < z → j ≠ e → h_ent X k j = h_ent S k j := fun j hj hje => by
    unfold h_ent h_hi h_lo
    rw [hrX, q6, hkdX, hkdS, hw, h_at2, hold _ (by omega) (by omega), hold _ (by omega) (by omega)]
  have heX : h_ent X k e = o := by
    unfold h_ent h_hi h_lo
    rw [hrX, hkdX, hw, h_at2, hh, hl]
    exact ob_n ho ho2
  have heS : h_ent S k e = 0 := by
    unfold h_ent h_hi h_lo
    rw [hkdS, hw, h_at2, hu.1, hu.2]
    decide
  have hcnt : ∀ q, 1 ≤ q → (tgs X k).count q = (tgs S k).count q + dl o q := fun q hq => by
    have := seq_set (f := h_ent S k) (g := h_ent X k) (q := q) he hent
    rw [heX, heS, if_dl hq, if_dl hq, dl_0] at this
    unfold tgs
    rw [hnX, hnS, hFX.A (a := 7) (by decide), hFX.A (a := 8) (by decide), count_cons', count_cons', count_cons', count_cons']
    omega
  have hokX : h_ok X k := by
    obtain ⟨kd', z', x', y', b1, b2, b3, b4, b5, b6, b7, b8, b9, b10, b11⟩ := h.1.1 k hk.1 hk.2.1
    have ek : kd' = 7 := by
      have := congrArg gN (b2.symm.trans hkd)
      rw [gN_nI (by omega), gN_nI (by omega)] at this
      exact this
    have ez : z' = z := by
      have := congrArg gN (b3.symm.trans hz)
      rw [gN_nI (by have := c_most_le kd'; omega), gN_nI (by omega)] at this
      exact this
    subst ek
    subst ez
    refine ⟨7, z', x', y', b1, by rw [e3]; exact b2, by rw [h10]; exact b3, by rw [hFX.A (by decide)]; exact b4, by rw [hFX.A (by decide)]; exact b5, b6, b7, b8, b9, by rw [hFX.2.2.2.1]; exact b10, ?_⟩
    rw [hFX.2.2.2.1, hFX.2.2.2.2.1]
    intro b hb
    rw [q1] at hb
    injection hb with hb
    subst hb
    refine ⟨N, q2, q3, q5, q4, fun j hj => ?_⟩
    rw [hw, h_at2]
    by_cases hje : j = e
    · subst hje
      rw [hh, hl]
      exact ⟨o, ho2, ho⟩
    · rw [hold _ (by omega) (by omega), hold _ (by omega) (by omega)]
      obtain ⟨q, m1, m2, _⟩ := q9 j hj
      rw [h_at2] at m2
      exact ⟨q, m1, m2⟩
  have hmem : ∀ q, q ∈ tgs X k → q = 0 ∨ lv S q := fun q hq => by
    unfold tgs at hq
    rw [hnX, hFX.A (a := 7) (by decide), hFX.A (a := 8) (by decide)] at hq
    have hcl := mHS_cl h k hk.1 hk.2.1 hk.2.2
    rcases List.mem_cons.mp hq with c | hq
    · rw [c]; exact hcl _ (by unfold tgs; exact List.mem_cons_self)
    rcases List.mem_cons.mp hq with c | hq
    · rw [c]; exact hcl _ (by unfold tgs; exact List.mem_cons_of_mem _ List.mem_cons_self)
    obtain ⟨j, _, j2, c⟩ := seqN_mem hq
    by_cases hje : j = e
    · rw [c, hje, heX]
      exact hol
    · rw [c, hent j (by omega) hje]
      exact hcl _ (by
        unfold tgs
        rw [hnS]
        exact List.mem_cons_of_mem _ (List.mem_cons_of_mem _ (seqN_in (Nat.zero_le _) (by omega))))
  obtain ⟨c1, c2, c3, c4, c5, c6⟩ := cnt_HS h hR hk q1 q2 hFX h4 (fun j _ => by rw [h10]) hokX hcnt hmem
  exact ⟨X, hA, c1, c2, c3, c4, c5, ⟨funext fun i => hFX.I List.not_mem_nil, fun b h4' _ => hf b h4', c6⟩, h10, by rw [hrX, q6], fun i h1 h2 => by rw [q6]; exact hold i h1 h2, by rw [q6]; exact hh, by rw [q6]; exact hl⟩
end
