
/-! THE CLASS'S HEAP: a frame opens -/
section
variable {d t x k n : Nat} {S : cS} {g : Nat → Nat}
theorem mopen_T (h : mHS x g t S) (hR : rwL S) (hk : lv S k) (hkd : sA S 3 k = nI 7) (hz : sA S 10 k = nI 0) (hn : n ≤ 300) : ∃ X, Ans (d + 4) 257 [.ref 2, .int (nI k), .int (nI n)] S none X ∧ mHS x g t X ∧ rwL X ∧ CFm S X ∧ (∀ j, 1 ≤ j → j ≤ 1500 → j ≠ k → obE S X j) ∧ (∀ q, 1 ≤ q → heldBy X q = heldBy S q) ∧ apF S X ∧ sA X 10 k = nI n ∧ (∀ i, i < 2 * n → sL X (h_row X k) i = 0) := by
  by_cases hc : n = 0 ∧ sQ S 11 k = none
  · obtain ⟨rfl, hq⟩ := hc
    exact ⟨S, openN (d := d) hk.1 hk.2.1 hq (growRow_0 (d := d + 1) hk.1 hk.2.1 hq), h, hR, CFm.refl S, fun j _ _ _ => obE.refl S j, fun _ _ => rfl, ⟨rfl, fun _ _ _ => rfl, fun _ _ => rfl⟩, hz, fun i hi => by omega⟩
  have hW : ∃ W, Ans (d + 3) 185 [.ref 2, .int (nI k), .int (nI (2 * n))] S none W ∧ grS S W k (2 * n) := by
    by_cases h0 : n = 0
    · subst h0
      cases hq : sQ S 11 k with
      | none => exact absurd ⟨rfl, hq⟩ hc
      | some a =>
        obtain ⟨q1, N, q2, q3⟩ := hR k a hk.2.1 hq
        exact ⟨S, growRow_fit (d := d + 1) hk.1 hk.2.1 (by omega) hq q1 q2 (by omega) (by omega), Or.inl ⟨rfl, ⟨a, hq⟩, by omega⟩⟩
    · exact grow_T (d := d) hk.1 hk.2.1 (by omega) (by omega) hR
  obtain ⟨W0, hA0, hG⟩ := hW
  obtain ⟨a1, a2, a3, a4, a5, a6⟩ := grow_HS h hR hG hk.2.1 (by omega)
  obtain ⟨f1, f2, f3, f4, f5, f6, f7⟩ := gr_F hG
  obtain ⟨⟨a, N, b1, b2, b3, b4, b5⟩, _⟩ := gr_row hG hk.2.1 (by omega) hR
  have hk0 : lv W0 k := ⟨hk.1, hk.2.1, by rw [f4]; exact hk.2.2⟩
  have hkd0 : sA W0 3 k = nI 7 := by rw [f4]; exact hkd
  have hz0 : sA W0 10 k = nI 0 := by rw [f4]; exact hz
  have hA := openG (d := d) hk.1 hk.2.1 hn b1 b2 b3 (by omega) b4 hA0
  have hFX : FrL [] [4, 10] [a] W0 (wA 10 k (nI n) (fz a (2 * n) W0)) := FrL_wA (by decide) (FrL_wG List.mem_cons_self (FrL.refl _ _ _ _))
  have h4 : ∀ q, sA (wA 10 k (nI n) (fz a (2 * n) W0)) 4 q = sA W0 4 q + nI (dl 0 q) := fun q => by
    rw [dl_0]
    show sA W0 4 q = _
    exact (Int32.add_zero _).symm
  have h10 : ∀ j, sA (wA 10 k (nI n) (fz a (2 * n) W0)) 10 j = if j = k then nI n else sA W0 10 j := fun j => rfl
  have hzr : ∀ i, i < 2 * n → sL (wA 10 k (nI n) (fz a (2 * n) W0)) a i = 0 := fun i hi => by
    show sL (fz a (2 * n) W0) a i = 0
    unfold fz
    rw [rG, if_pos rfl, if_pos hi]
  generalize wA 10 k (nI n) (fz a (2 * n) W0) = X at hA hFX h4 h10 hzr
  have e3 : sA X 3 = sA W0 3 := hFX.A (by decide)
  have hrX : h_row X k = a := by unfold h_row; rw [hFX.2.2.2.1, b1]; rfl
  have hkdX : h_kd X k = 7 := by unfold h_kd; rw [e3, hkd0, gN_nI (by omega)]
  have hkdW : h_kd W0 k = 7 := by unfold h_kd; rw [hkd0, gN_nI (by omega)]
  have hw : c_width 7 = 2 := rfl
  have hnW : h_n W0 k = 0 := by unfold h_n h_z; rw [hkdW, hw, if_neg (by omega), hz0, gN_nI (by omega)]
  have hnX : h_n X k = n := by unfold h_n h_z; rw [hkdX, hw, if_neg (by omega), h10, if_pos rfl, gN_nI (by omega)]
  have hent : ∀ j, j < n → h_ent X k j = 0 := fun j hj => by
    unfold h_ent h_hi h_lo
    rw [hrX, hkdX, hw, h_at2, hzr _ (by omega), hzr _ (by omega)]
    decide
  have hcnt : ∀ q, 1 ≤ q → (tgs X k).count q = (tgs W0 k).count q + dl 0 q := fun q hq => by
    have e : (seqN (h_ent X k) 0 n).count q = 0 := by
      refine List.count_eq_zero.mpr (fun hm => ?_)
      obtain ⟨j, _, j2, c⟩ := seqN_mem hm
      rw [hent j (by omega)] at c
      omega
    have e0 : (seqN (h_ent W0 k) 0 0).count q = 0 := rfl
    unfold tgs
    rw [hnX, hnW, hFX.A (a := 7) (by decide), hFX.A (a := 8) (by decide), count_cons', count_cons', count_cons', count_cons', e, e0, dl_0, Nat.add_zero]
  have hokX : h_ok X k := by
    obtain ⟨kd', z', x', y', c1, c2, c3, c4, c5, c6, c7, c8, c9, c10, c11⟩ := a1.1.1 k hk.1 hk.2.1
    refine ⟨7, n, x', y', by omega, by rw [e3]; exact hkd0, by rw [h10, if_pos rfl], by rw [hFX.A (by decide)]; exact c4, by rw [hFX.A (by decide)]; exact c5, c6, c7, hn, (fun c => by rw [hw] at c; cases c), (fun c => by rw [hFX.2.2.2.1, b1] at c; cases c), ?_⟩
    rw [hFX.2.2.2.1, hFX.2.2.2.2.1]
    intro b hb
    rw [b1] at hb
    injection hb with hb
    subst hb
    refine ⟨N, b2, b3, by rw [hw]; exact b4, by omega, fun j hj => ?_⟩
    rw [hw, h_at2, hzr _ (by omega), hzr _ (by omega)]
    exact ⟨0, Nat.zero_le _, by decide⟩
  have hmem : ∀ q, q ∈ tgs X k → q = 0 ∨ lv W0 q := fun q hq => by
    unfold tgs at hq
    rw [hnX, hFX.A (a := 7) (by decide), hFX.A (a := 8) (by decide)] at hq
    have hcl := mHS_cl a1 k hk0.1 hk0.2.1 hk0.2.2
    rcases List.mem_cons.mp hq with c | hq
    · rw [c]; exact hcl _ (by unfold tgs; exact List.mem_cons_self)
    rcases List.mem_cons.mp hq with c | hq
    · rw [c]; exact hcl _ (by unfold tgs; exact List.mem_cons_of_mem _ List.mem_cons_self)
    obtain ⟨j, _, j2, c⟩ := seqN_mem hq
    exact Or.inl (by rw [c]; exact hent j (by omega))
  obtain ⟨c1, c2, c3, c4, c5, c6⟩ := cnt_HS (o := 0) a1 a2 hk0 b1 b2 hFX h4 (fun j hj => by rw [h10, if_neg hj]) hokX hcnt hmem
  refine ⟨X, hA, c1, c2, a3.trans c3, fun j j1 j2 hj => (a4 j j1 j2).trans (c4 j j1 j2 hj), fun q hq => by rw [c5 q hq, a5 q, dl_0, Nat.add_zero], ⟨?_, fun b h4' h10' => ?_, fun b hb => ?_⟩, by rw [h10, if_pos rfl], fun i hi => by rw [hrX]; exact hzr i hi⟩
  · rw [← f3]
    exact funext fun i => hFX.I List.not_mem_nil
  · rw [hFX.A (by simpa using ⟨h4', h10'⟩), f4]
  · rw [hFX.2.1 b (by simpa using (show b ≠ a by omega)), a6 b hb]
end
