/-! THE CLASS'S HEAP: append, whole -/
section
variable {d t x k q kd z o w : Nat} {S W : cS} {g : Nat → Nat} {hi lo kh kl : Int64}
theorem wmost {kd w : Nat} (hw : c_width kd = w) (hw2 : w = 2 ∨ w = 4) : w * c_most kd ≤ 600 ∧ (w = 4 → w * c_most kd ≤ 400) := by
  unfold c_width at hw
  unfold c_most
  split at hw
  · rename_i h1
    rw [if_pos h1]
    omega
  · rename_i h1
    rw [if_neg h1]
    split at hw
    · split <;> omega
    · omega
/-- all of the state but a row, sizes and holds -/
def apF (S W : cS) : Prop := sI W = sI S ∧ (∀ b, b ≠ 4 → b ≠ 10 → sA W b = sA S b) ∧ (∀ a, a < 108 → sL W a = sL S a)
theorem wL_at (a i : Nat) (v : Int64) (S : cS) (j : Nat) : sL (wL a i v S) a j = if j = i then v else sL S a j := by
  rw [rL, if_pos rfl]
  rfl
theorem mappend_T (h : mHS x g t S) (hR : rwL S) (hk : lv S k) (hkd : sA S 3 k = nI kd) (h7 : kd ≤ 7) (hw : c_width kd = w) (hw2 : w = 2 ∨ w = 4) (hz : sA S 10 k = nI z) (hz2 : z ≤ c_most kd) (ho : c_obj hi lo = nI o) (hol : o = 0 ∨ lv S o) : (z = c_most kd ∧ Ans (d + 4) 183 [.ref 2, .int (nI k), .long kh, .long kl, .long hi, .long lo] S (some (.int (nI 0))) S) ∨ (z < c_most kd ∧ ∃ W, Ans (d + 4) 183 [.ref 2, .int (nI k), .long kh, .long kl, .long hi, .long lo] S (some (.int 1)) W ∧ mHS x g t W ∧ rwL W ∧ CFm S W ∧ (∀ j, 1 ≤ j → j ≤ 1500 → j ≠ k → obE S W j) ∧ (∀ q, 1 ≤ q → heldBy W q = heldBy S q + dl o q) ∧ apF S W ∧ sA W 10 k = nI (z + 1) ∧ (∀ i, i < w * z → sL W (h_row W k) i = sL S (h_row S k) i) ∧ sL W (h_row W k) (h_at w z) = hi ∧ sL W (h_row W k) (h_at w z + 1) = lo ∧ (w = 4 → sL W (h_row W k) (4 * z) = kh ∧ sL W (h_row W k) (4 * z + 1) = kl)) := by
  have ho2 : o ≤ 1500 := by rcases hol with e | e; omega; exact e.2.1
  have hm := c_most_le kd
  obtain ⟨wm1, wm2⟩ := wmost hw hw2
  by_cases hc : z = c_most kd
  · left
    exact ⟨hc, append_no (d := d + 2) hk.1 hk.2.1 hkd h7 hz rfl (by omega) (by omega)⟩
  · right
    have hzm : z < c_most kd := by omega
    refine ⟨hzm, ?_⟩
    have hN6 : w * z + w ≤ 600 := by
      have : w * (z + 1) ≤ w * c_most kd := Nat.mul_le_mul_left _ hzm
      rw [Nat.mul_succ] at this
      omega
    obtain ⟨W0, hA0, hG⟩ := grow_T (d := d) (q := w * z + w) hk.1 hk.2.1 (by omega) hN6 hR
    obtain ⟨a1, a2, a3, a4, a5, a6⟩ := grow_HS h hR hG hk.2.1 hN6
    obtain ⟨f1, f2, f3, f4, f5, f6, f7⟩ := gr_F hG
    obtain ⟨⟨a, N, b1, b2, b3, b4, b5⟩, _⟩ := gr_row hG hk.2.1 hN6 hR
    have hk0 : lv W0 k := ⟨hk.1, hk.2.1, by rw [f4]; exact hk.2.2⟩
    have hkd0 : sA W0 3 k = nI kd := by rw [f4]; exact hkd
    have hz0 : sA W0 10 k = nI z := by rw [f4]; exact hz
    have hol0 : o = 0 ∨ lv W0 o := hol.imp id (fun c => ⟨c.1, c.2.1, by rw [f4]; exact c.2.2⟩)
    have hrk0 : h_row W0 k = a := by unfold h_row; rw [b1]; rfl
    have hkdS : h_kd S k = kd := by unfold h_kd; rw [hkd, gN_nI (by omega)]
    have hzS : h_z S k = z := by unfold h_z; rw [hz, gN_nI (by omega)]
    have hold0 : ∀ i, i < w * z → sL W0 a i = sL S (h_row S k) i := fun i hi => by
      rw [← hrk0]
      exact (a4 k hk.1 hk.2.1).2.2.2.2.2 i (by rw [hkdS, hzS, hw]; exact hi)
    have fin : ∀ W, Ans (d + 4) 183 [.ref 2, .int (nI k), .long kh, .long kl, .long hi, .long lo] S (some (.int 1)) W → FrL [] [4, 10] [a] W0 W → (∀ q, sA W 4 q = sA W0 4 q + nI (dl o q)) → (∀ j, sA W 10 j = if j = k then nI (z + 1) else sA W0 10 j) → (∀ i, i < w * z → sL W a i = sL W0 a i) → sL W a (h_at w z) = hi → sL W a (h_at w z + 1) = lo → (w = 4 → sL W a (4 * z) = kh ∧ sL W a (4 * z + 1) = kl) → ∃ W, Ans (d + 4) 183 [.ref 2, .int (nI k), .long kh, .long kl, .long hi, .long lo] S (some (.int 1)) W ∧ mHS x g t W ∧ rwL W ∧ CFm S W ∧ (∀ j, 1 ≤ j → j ≤ 1500 → j ≠ k → obE S W j) ∧ (∀ q, 1 ≤ q → heldBy W q = heldBy S q + dl o q) ∧ apF S W ∧ sA W 10 k = nI (z + 1) ∧ (∀ i, i < w * z → sL W (h_row W k) i = sL S (h_row S k) i) ∧ sL W (h_row W k) (h_at w z) = hi ∧ sL W (h_row W k) (h_at w z + 1) = lo ∧ (w = 4 → sL W (h_row W k) (4 * z) = kh ∧ sL W (h_row W k) (4 * z + 1) = kl) := by
      intro W hA hFW h4 h10 hold hh hl hkk
      obtain ⟨c1, c2, c3, c4, c5⟩ := app_HS (f := fun _ => 0) a1 a2 hk0 hkd0 h7 hw hw2 hz0 hzm b1 b2 b3 (by omega) (by omega) hol0 hFW h4 h10 hold (by rw [hh, hl]; exact ho)
      have hrW : h_row W k = a := by unfold h_row; rw [hFW.2.2.2.1, b1]; rfl
      refine ⟨W, hA, c1, c2, a3.trans c3, fun j j1 j2 hj => (a4 j j1 j2).trans (c4 j j1 j2 hj), fun q hq => by rw [c5 q hq, a5 q], ⟨?_, fun b h4' h10' => ?_, fun b hb => ?_⟩, by rw [h10, if_pos rfl], fun i hi => by rw [hrW, hold i hi]; exact hold0 i hi, by rw [hrW]; exact hh, by rw [hrW]; exact hl, fun e => by rw [hrW]; exact hkk e⟩
      · rw [← f3]
        exact funext fun i => hFW.I List.not_mem_nil
      · rw [hFW.A (by simpa using ⟨h4', h10'⟩), f4]
      · rw [hFW.2.1 b (by simpa using (show b ≠ a by omega)), a6 b hb]
    rcases hw2 with rfl | rfl
    · refine fin _ (appendG_2 hk.1 hk.2.1 hkd h7 hz hz0 b1 b2 b3 (by omega) hw rfl hzm hm b4 hN6 ho ho2 hA0) ?_ (fun q => by rw [hold4_at]; rfl) (fun j => ?_) (fun i hiz => ?_) ?_ ?_ (fun e => by cases e)
      · exact (FrL_wA (by decide) (FrL_wL List.mem_cons_self (FrL_wL List.mem_cons_self (FrL.refl _ _ _ _)))).trans ((hold4_F o _).mono (by decide) (by decide) (by intro a ha; cases ha))
      · rw [(hold4_F o _).A (by decide)]; rfl
      · rw [rL_hold]
        show sL (wL a (2 * z + 1) lo (wL a (2 * z) hi W0)) a i = _
        rw [wL_at, if_neg (by omega), wL_at, if_neg (by omega)]
      · rw [rL_hold, h_at2]
        show sL (wL a (2 * z + 1) lo (wL a (2 * z) hi W0)) a (2 * z) = _
        rw [wL_at, if_neg (by omega), wL_at, if_pos rfl]
      · rw [rL_hold, h_at2]
        show sL (wL a (2 * z + 1) lo (wL a (2 * z) hi W0)) a (2 * z + 1) = _
        rw [wL_at, if_pos rfl]
    · refine fin _ (appendG_4 hk.1 hk.2.1 hkd h7 hz hz0 b1 b2 b3 (by omega) hw rfl hzm hm b4 hN6 ho ho2 hA0) ?_ (fun q => by rw [hold4_at]; rfl) (fun j => ?_) (fun i hiz => ?_) ?_ ?_ (fun _ => ⟨?_, ?_⟩)
      · exact (FrL_wA (by decide) (FrL_wL List.mem_cons_self (FrL_wL List.mem_cons_self (FrL_wL List.mem_cons_self (FrL_wL List.mem_cons_self (FrL.refl _ _ _ _)))))).trans ((hold4_F o _).mono (by decide) (by decide) (by intro a ha; cases ha))
      · rw [(hold4_F o _).A (by decide)]; rfl
      · rw [rL_hold]
        show sL (wL a (4 * z + 3) lo (wL a (4 * z + 2) hi (wL a (4 * z + 1) kl (wL a (4 * z) kh W0)))) a i = _
        rw [wL_at, if_neg (by omega), wL_at, if_neg (by omega), wL_at, if_neg (by omega), wL_at, if_neg (by omega)]
      · rw [rL_hold, h_at4]
        show sL (wL a (4 * z + 3) lo (wL a (4 * z + 2) hi (wL a (4 * z + 1) kl (wL a (4 * z) kh W0)))) a (4 * z + 2) = _
        rw [wL_at, if_neg (by omega), wL_at, if_pos rfl]
      · rw [rL_hold, h_at4]
        show sL (wL a (4 * z + 3) lo (wL a (4 * z + 2) hi (wL a (4 * z + 1) kl (wL a (4 * z) kh W0)))) a (4 * z + 2 + 1) = _
        rw [wL_at, if_pos rfl]
      · rw [rL_hold]
        show sL (wL a (4 * z + 3) lo (wL a (4 * z + 2) hi (wL a (4 * z + 1) kl (wL a (4 * z) kh W0)))) a (4 * z) = _
        rw [wL_at, if_neg (by omega), wL_at, if_neg (by omega), wL_at, if_neg (by omega), wL_at, if_pos rfl]
      · rw [rL_hold]
        show sL (wL a (4 * z + 3) lo (wL a (4 * z + 2) hi (wL a (4 * z + 1) kl (wL a (4 * z) kh W0)))) a (4 * z + 1) = _
        rw [wL_at, if_neg (by omega), wL_at, if_neg (by omega), wL_at, if_pos rfl]
end
