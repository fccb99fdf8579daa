/-! THE CLASS'S STACK: values leave, a value comes in the place of others -/
section
variable {d t v o x : Nat} {S S' : cS} {g : Nat → Nat} {hi lo : Int64}
theorem mHS_o (h : mHS x g t S) {i : Nat} (hi : i < t) : ∃ o, o ≤ 1500 ∧ c_obj (sL S 47 i) (sL S 48 i) = nI o ∧ (o = 0 ∨ lv S o) := h.2.2.2.2.1 i hi
theorem mHS_cl (h : mHS x g t S) : h_cl S := h.1.2.2.2.1
theorem mHS_ok (h : mHS x g t S) : ∀ k, 1 ≤ k → k ≤ 1500 → h_ok S k := h.1.1
/-- the loop of pop, r values from the end -/
theorem pop_L (hv : v < 2 ^ 20) : ∀ (r i : Nat) (t : Nat) (S : cS), i + r = v → r ≤ t → mHS 0 g t S → ∃ S' K, (∀ lv1 : sm_L, sm_get lv1 0 = some (.ref 46) → sm_get lv1 1 = some (.int (nI v)) → sm_get lv1 2 = some (.int (nI i)) → Bod (d + 8) 141 2 lv1 [] S none S') ∧ mHS 0 g (t - r) S' ∧ KX K S S' ∧ sL S' = sL S ∧ (∀ k, k ∈ K → g k = 0) := by
  intro r
  induction r with
  | zero =>
    intro i t S hi _ h
    exact ⟨S, [], fun lv1 q0 q1 q2 => mPoL_1 q0 q1 q2 hv (by omega) (by omega), h, KX_refl S, rfl, fun k hk => by cases hk⟩
  | succ r ih =>
    intro i t S hi ht h
    obtain ⟨t1, rfl⟩ : ∃ t1, t = t1 + 1 := ⟨t - 1, by omega⟩
    obtain ⟨o, o1, o2, o3⟩ := mHS_o h (i := t1) (by omega)
    obtain ⟨S1, K1, a1, a2, a3, a4, a5⟩ := pop_turn (d := d + 5) h o2 o1
    obtain ⟨S2, K2, b1, b2, b3, b4, b5⟩ := ih (i + 1) t1 S1 (by omega) (by omega) a2
    refine ⟨S2, K1 ++ K2, fun lv1 q0 q1 q2 => mPoL_4 (t := t1 + 1) q0 q1 q2 hv (by omega) (by omega) h.2.2.1 (by have := h.2.2.2.1; omega) (by omega) (by have := h.2.2.2.1; omega) (by omega) (S1 := wI 4603 (nI t1) S) (rb := nI o) ?_ a1 b1, by rw [show t1 + 1 - (r + 1) = t1 - r by omega]; exact b2, KX_trans a3 b3 (mHS_cl a2) (mHS_ok h), b4.trans a4, fun k hk => (List.mem_append.mp hk).elim (a5 k) (b5 k)⟩
    exact (objectOf_n (d := d + 7) o2)
theorem mpop_T (h : mHS 0 g t S) (hv : v ≤ t) : ∃ S' K, Ans (d + 9) 141 [.ref 46, .int (nI v)] S none S' ∧ mHS 0 g (t - v) S' ∧ KX K S S' ∧ sL S' = sL S ∧ (∀ k, k ∈ K → g k = 0) := by
  have ht := h.2.2.2.1
  obtain ⟨S', K, a1, a2⟩ := pop_L (d := d) (v := v) (by omega) v 0 t S (by omega) hv h
  exact ⟨S', K, Ans.of (by rw [ml_141]; exact Nat.le_of_ble_eq_true rfl) (Bod.lv (by rfl) (mPo_1 (by omega) (fun lv1 q0 q1 q2 => a1 lv1 q0 q1 q2))), a2⟩
/-- the loop of give -/
theorem give_L (hv : v < 2 ^ 20) : ∀ (r i : Nat) (t : Nat) (S : cS), i + r = v → r ≤ t → mHS 0 g t S → ∃ S' K, (∀ (Sf : cS) (w : Option Value), (∀ lv1 : sm_L, sm_get lv1 0 = some (.ref 46) → sm_get lv1 2 = some (.long hi) → sm_get lv1 4 = some (.long lo) → Bod (d + 8) 148 97 lv1 [] S' w Sf) → ∀ lv1 : sm_L, sm_get lv1 0 = some (.ref 46) → sm_get lv1 1 = some (.int (nI v)) → sm_get lv1 2 = some (.long hi) → sm_get lv1 4 = some (.long lo) → sm_get lv1 6 = some (.int (nI i)) → Bod (d + 8) 148 23 lv1 [] S w Sf) ∧ mHS 0 g (t - r) S' ∧ KX K S S' ∧ sL S' = sL S ∧ (∀ k, k ∈ K → g k = 0) := by
  intro r
  induction r with
  | zero =>
    intro i t S hi' _ h
    exact ⟨S, [], fun Sf w hB lv1 q0 q1 q2 q4 q6 => mGiL_1 q0 q1 q2 q4 q6 hv (by omega) (by omega) hB, h, KX_refl S, rfl, fun k hk => by cases hk⟩
  | succ r ih =>
    intro i t S hi' ht h
    obtain ⟨t1, rfl⟩ : ∃ t1, t = t1 + 1 := ⟨t - 1, by omega⟩
    obtain ⟨o, o1, o2, o3⟩ := mHS_o h (i := t1) (by omega)
    obtain ⟨S1, K1, a1, a2, a3, a4, a5⟩ := pop_turn (d := d + 5) h o2 o1
    obtain ⟨S2, K2, b1, b2, b3, b4, b5⟩ := ih (i + 1) t1 S1 (by omega) (by omega) a2
    refine ⟨S2, K1 ++ K2, fun Sf w hB lv1 q0 q1 q2 q4 q6 => mGiL_4 (t := t1 + 1) q0 q1 q2 q4 q6 hv (by omega) (by omega) h.2.2.1 (by have := h.2.2.2.1; omega) (by omega) (by have := h.2.2.2.1; omega) (by omega) (S1 := wI 4603 (nI t1) S) (rb := nI o) ?_ a1 (fun lv2 p0 p1 p2 p4 p6 => b1 Sf w hB lv2 p0 p1 p2 p4 p6), by rw [show t1 + 1 - (r + 1) = t1 - r by omega]; exact b2, KX_trans a3 b3 (mHS_cl a2) (mHS_ok h), b4.trans a4, fun k hk => (List.mem_append.mp hk).elim (a5 k) (b5 k)⟩
    exact (objectOf_n (d := d + 7) o2)
/-- one more hold by work -/
theorem hold6_HS (h : mHS x g t S) (ho2 : o ≤ 1500) (hol : o = 0 ∨ lv S o) (hx : x = 0 ∨ x = o) (hg : ∀ k, g k < 1000) : mHS 0 (fun k => g k + dl o k) t (c_hold 6 o S) ∧ FrL [4603] [4, 5, 6, 14] [47, 48] S (c_hold 6 o S) ∧ sL (c_hold 6 o S) = sL S := by
  obtain ⟨hP, hD, hT, hM, hL, hN, hG, hB, hg'⟩ := h
  have hF : FrL [] [6] [] S (c_hold 6 o S) := by
    unfold c_hold
    split
    · exact FrL.refl _ _ _ _
    · exact FrL_wA (by decide) (FrL.refl _ _ _ _)
  have h6 : ∀ k, sA (c_hold 6 o S) 6 k = sA S 6 k + nI (dl o k) := fun k => by
    unfold c_hold dl
    by_cases h0 : o = 0
    · rw [if_pos h0, if_neg (fun c => c.1 h0)]
      exact (Int32.add_zero _).symm
    · rw [if_neg h0, rAe, upd_at]
      by_cases e : k = o
      · subst e
        rw [if_pos rfl, if_pos ⟨h0, rfl⟩]
      · rw [if_neg e, if_neg (fun c => e c.2)]
        exact (Int32.add_zero _).symm
  have hF1 : FrL [4603] [4, 5, 6, 14] [47, 48] S (c_hold 6 o S) := hF.mono (by decide) (by decide) (by decide)
  have eL : sL (c_hold 6 o S) = sL S := funext fun a => hF.2.1 a List.not_mem_nil
  have eS : stE t (c_hold 6 o S) = stE t S := stE_L (fun i _ => by rw [eL]; exact ⟨rfl, rfl⟩)
  have e3 : sA (c_hold 6 o S) 3 = sA S 3 := hF.A (by decide)
  have hlv : ∀ k, lv (c_hold 6 o S) k ↔ lv S k := fun k => by unfold lv; rw [e3]
  have hdl : ∀ k, dl o k ≤ 1 := fun k => by unfold dl; split <;> omega
  obtain ⟨hP2, hh⟩ := Hp_reL (f4 := no_e) (f5 := nmE S) (f6 := fun k => stE t S k + (g k + dl o k)) hP hF1 (by decide) (by decide) (fun q q1 q2 => by
    obtain ⟨p4, p5, p6, p7, p8, p9⟩ := hP.2.2.2.2.2 q q1 q2
    refine ⟨by rw [hF.A (by decide)]; exact p4, by rw [hF.A (by decide)]; exact p5, ?_, p7, p8, ?_⟩
    · rw [h6 q, p6, nI_add, Nat.add_assoc]
    · have := hdl q
      have := stE_le t S q
      have := hg q
      omega)
  refine ⟨⟨by rw [nmE_L eL, eS]; exact hP2, fun k hk _ => ?_, by rw [hF.I (by decide)]; exact hT, hM, fun i hi => ?_, fun i hi => ?_, fun k hk => ?_, by rw [hF.I (by decide), nmB_L eL]; exact hB, fun k => by have := hg k; have := hdl k; show g k + dl o k ≤ 1000; omega⟩, hF1, eL⟩
  · have hk' := (hlv k).mp hk
    rw [hh k, nmE_L eL, eS]
    show 0 < heldBy S k + nmE S k + (stE t S k + (g k + dl o k))
    by_cases e : k = o
    · rw [e, dl_e (by have := hk.1; omega)]
      omega
    · rw [dl_n e]
      have hk1 := hk.1
      have := hD k hk' (by omega)
      omega
  · obtain ⟨q, q1, q2, q3⟩ := hL i hi
    exact ⟨q, q1, by rw [eL]; exact q2, q3.imp id (fun h => (hlv q).mpr h)⟩
  · obtain ⟨q, q1, q2, q3⟩ := hN i hi
    exact ⟨q, q1, by rw [eL]; exact q2, q3.imp id (fun h => (hlv q).mpr h)⟩
  · by_cases h0 : 0 < g k
    · exact (hlv k).mpr (hG k h0)
    · have hk2 : 0 < g k + dl o k := hk
      have h1 : dl o k ≠ 0 := by omega
      unfold dl at h1
      split at h1
      · rename_i hc
        rw [hc.2]
        exact (hlv o).mpr (hol.resolve_left hc.1)
      · exact absurd rfl h1
/-- a value comes to the top, whose hold is told already -/
theorem push_HS (h : mHS 0 (fun k => g k + dl o k) t S) (ho : c_obj hi lo = nI o) (ho2 : o ≤ 1500) (ht : t < 20480) (hol : o = 0 ∨ lv S o) : mHS 0 g (t + 1) (wI 4603 (nI (t + 1)) (wL 48 t lo (wL 47 t hi S))) ∧ FrL [4603] [4, 5, 6, 14] [47, 48] S (wI 4603 (nI (t + 1)) (wL 48 t lo (wL 47 t hi S))) ∧ (∀ i, i ≠ t → sL (wI 4603 (nI (t + 1)) (wL 48 t lo (wL 47 t hi S))) 47 i = sL S 47 i ∧ sL (wI 4603 (nI (t + 1)) (wL 48 t lo (wL 47 t hi S))) 48 i = sL S 48 i) ∧ sL (wI 4603 (nI (t + 1)) (wL 48 t lo (wL 47 t hi S))) 47 t = hi ∧ sL (wI 4603 (nI (t + 1)) (wL 48 t lo (wL 47 t hi S))) 48 t = lo := by
  have hF0 : FrL [4603] [4, 5, 6, 14] [47, 48] S (wI 4603 (nI (t + 1)) (wL 48 t lo (wL 47 t hi S))) := FrL_wI (by decide) (FrL_wL (by decide) (FrL_wL (by decide) (FrL.refl _ _ _ _)))
  have hF3 : FrL [4603] [] [47, 48] S (wI 4603 (nI (t + 1)) (wL 48 t lo (wL 47 t hi S))) := FrL_wI (by decide) (FrL_wL (by decide) (FrL_wL (by decide) (FrL.refl _ _ _ _)))
  have l47 : ∀ i, sL (wI 4603 (nI (t + 1)) (wL 48 t lo (wL 47 t hi S))) 47 i = if i = t then hi else sL S 47 i := fun i => by
    show sL (wL 48 t lo (wL 47 t hi S)) 47 i = _
    rw [rLn _ _ _ (by decide)]
    rfl
  have l48 : ∀ i, sL (wI 4603 (nI (t + 1)) (wL 48 t lo (wL 47 t hi S))) 48 i = if i = t then lo else sL S 48 i := fun i => by
    show sL (wL 48 t lo (wL 47 t hi S)) 48 i = _
    rw [rLe]
    show (if i = t then lo else sL (wL 47 t hi S) 48 i) = _
    rw [rLn _ _ _ (by decide)]
  generalize hW : wI 4603 (nI (t + 1)) (wL 48 t lo (wL 47 t hi S)) = W at hF0 hF3 l47 l48 ⊢
  have i46 : sI W 4603 = nI (t + 1) := by rw [← hW]; exact rIe _ _ _
  obtain ⟨hP, hD, hT, hM, hL, hN, hG, hB, hg'⟩ := h
  have eS : ∀ k, 1 ≤ k → stE (t + 1) W k = stE t S k + dl o k := fun k hk => by
    rw [stE_s (S := W) (t := t) (o := o) (by rw [l47, l48, if_pos rfl, if_pos rfl]; exact ob_n ho ho2) hk, stE_L (S := S) (S' := W) (fun i hi => by rw [l47, l48, if_neg (by omega), if_neg (by omega)]; exact ⟨rfl, rfl⟩)]
  obtain ⟨eN, eB⟩ := nmE_F hF3 (by decide)
  have e3 : sA W 3 = sA S 3 := hF3.A (by decide)
  have hlv : ∀ k, lv W k ↔ lv S k := fun k => by unfold lv; rw [e3]
  obtain ⟨hP2, hh⟩ := Hp_reL (f4 := no_e) (f5 := nmE S) (f6 := fun k => stE t S k + (g k + dl o k)) hP hF0 (by decide) (by decide) (fun q q1 q2 => by
    obtain ⟨p4, p5, p6, p7, p8, p9⟩ := hP.2.2.2.2.2 q q1 q2
    exact ⟨by rw [hF3.A (by decide)]; exact p4, by rw [hF3.A (by decide)]; exact p5, by rw [hF3.A (by decide)]; exact p6, p7, p8, p9⟩)
  refine ⟨⟨?_, fun k hk _ => ?_, i46, by omega, fun i hi => ?_, fun i hi => ?_, fun k hk => ?_, by rw [hF3.I (by decide), eB]; exact hB, fun k => by have h1 : g k + dl o k ≤ 1000 := hg' k; omega⟩, hF0, fun i hi => by rw [l47, l48, if_neg hi, if_neg hi]; exact ⟨rfl, rfl⟩, by rw [l47, if_pos rfl], by rw [l48, if_pos rfl]⟩
  · rw [eN]
    exact Hp_e6 hP2 (fun k k1 _ => by rw [eS k k1]; omega)
  · have hk' := (hlv k).mp hk
    have h1 : 0 < heldBy S k + nmE S k + (stE t S k + (g k + dl o k)) := hD k hk' (by have := hk.1; omega)
    rw [hh k, eN, eS k hk.1]
    omega
  · by_cases e : i = t
    · rw [l47, l48, if_pos e, if_pos e]
      exact ⟨o, ho2, ho, hol.imp id (fun h => (hlv o).mpr h)⟩
    · obtain ⟨q, q1, q2, q3⟩ := hL i (by omega)
      exact ⟨q, q1, by rw [l47, l48, if_neg e, if_neg e]; exact q2, q3.imp id (fun h => (hlv q).mpr h)⟩
  · obtain ⟨q, q1, q2, q3⟩ := hN i hi
    exact ⟨q, q1, by rw [hF3.2.1 21 (by decide), hF3.2.1 22 (by decide)]; exact q2, q3.imp id (fun h => (hlv q).mpr h)⟩
  · exact (hlv k).mpr (hG k (by show 0 < g k + dl o k; omega))
/-- give: a value in the place of those it came from -/
theorem mgive_T (h : mHS x g t S) (hv : v ≤ t) (ht : t - v < 20480) (ho : c_obj hi lo = nI o) (ho2 : o ≤ 1500) (hol : o = 0 ∨ lv S o) (hx : x = 0 ∨ x = o) (hg : ∀ k, g k < 1000) : ∃ S' K, Ans (d + 9) 148 [.ref 46, .int (nI v), .long hi, .long lo] S (some (.int (nI 0))) S' ∧ mHS 0 g (t - v + 1) S' ∧ KX K S S' ∧ (∀ i, i < t - v → sL S' 47 i = sL S 47 i ∧ sL S' 48 i = sL S 48 i) ∧ sL S' 47 (t - v) = hi ∧ sL S' 48 (t - v) = lo ∧ (∀ k, k ∈ K → g k = 0) ∧ (o = 0 ∨ lv S' o) := by
  have ht' := h.2.2.2.1
  obtain ⟨a1, a2, a3⟩ := hold6_HS h ho2 hol hx hg
  obtain ⟨S1, K, b1, b2, b3, b4, b5⟩ := give_L (d := d) (hi := hi) (lo := lo) (v := v) (by omega) v 0 t (c_hold 6 o S) (by omega) hv a1
  have hl1 : o = 0 ∨ lv S1 o := by
    rcases Nat.eq_zero_or_pos o with e | e
    · exact Or.inl e
    · exact Or.inr (b2.2.2.2.2.2.2.1 o (by show 0 < g o + dl o o; rw [dl_e e]; omega))
  obtain ⟨c1, c2, c3, c4, c5⟩ := push_HS (g := g) b2 ho ho2 ht hl1
  have hok := mHS_ok h
  have hk1 : KX K S S1 := by
    have := KX_trans (KX_fr a2) b3 (mHS_cl a1) hok
    exact this
  refine ⟨_, K, Ans.of (by rw [ml_148]; exact Nat.le_of_ble_eq_true rfl) (Bod.lv (by rfl) (mGi_1 (nv := v) (S1 := S) (rb := nI o) (S2 := c_hold 6 o S) (by omega) (objectOf_n (d := d + 7) ho) (hold_ev (d := d + 7) (Or.inr (Or.inr rfl)) ho2) (fun lv1 q0 q1 q2 q4 q6 => b1 _ _ (fun lv2 p0 p2 p4 => mGiE_1 (t := t - v) p0 p2 p4 b2.2.2.1 (by omega) ht) lv1 q0 q1 q2 q4 q6))), c1, ?_, fun i hi => ?_, c4, c5, fun k hk => by have h1 : g k + dl o k = 0 := b5 k hk; omega, ?_⟩
  · have := KX_trans hk1 (KX_fr c2) (mHS_cl b2) hok
    rw [List.append_nil] at this
    exact this
  · have := c3 i (by omega)
    rw [this.1, this.2, b4, a3]
    exact ⟨rfl, rfl⟩
  · refine hl1.imp id (fun h => ?_)
    have := (lv_KX (KX_fr c2) o).mpr ⟨h, List.not_mem_nil⟩
    exact this
theorem hold_push (t o : Nat) (hi lo : Int64) (S : cS) : c_hold 6 o (wI 4603 (nI (t + 1)) (wL 48 t lo (wL 47 t hi S))) = wI 4603 (nI (t + 1)) (wL 48 t lo (wL 47 t hi (c_hold 6 o S))) := by
  unfold c_hold
  split <;> rfl
theorem mpush_T (h : mHS x g t S) (ht : t < 20480) (ho : c_obj hi lo = nI o) (ho2 : o ≤ 1500) (hol : o = 0 ∨ lv S o) (hx : x = 0 ∨ x = o) (hg : ∀ k, g k < 1000) : ∃ S', Ans (d + 2) 153 [.ref 46, .long hi, .long lo] S none S' ∧ mHS 0 g (t + 1) S' ∧ KX [] S S' ∧ (∀ i, i < t → sL S' 47 i = sL S 47 i ∧ sL S' 48 i = sL S 48 i) ∧ sL S' 47 t = hi ∧ sL S' 48 t = lo := by
  obtain ⟨a1, a2, a3⟩ := hold6_HS h ho2 hol hx hg
  have e3 : sA (c_hold 6 o S) 3 = sA S 3 := a2.A (by decide)
  obtain ⟨c1, c2, c3, c4, c5⟩ := push_HS (g := g) (hi := hi) (lo := lo) a1 ho ho2 ht (hol.imp id (fun h => by
    unfold lv
    rw [e3]
    exact h))
  refine ⟨_, push_ev h.2.2.1 ht ho ho2, ?_⟩
  rw [hold_push]
  refine ⟨c1, KX_fr (a2.trans c2), fun i hi => ?_, c4, c5⟩
  have := c3 i (by omega)
  rw [this.1, this.2, a3]
  exact ⟨rfl, rfl⟩
/-- values that something else holds by now leave -/
theorem hand_turn (h : mHS 0 g (t + 1) S) (ho : c_obj (sL S 47 t) (sL S 48 t) = nI o) (ho2 : o ≤ 1500) (hh : o = 0 ∨ 0 < heldBy S o) : ∃ S', Ans (d + 2) 262 [.ref 2, .int (nI o)] (wI 4603 (nI t) S) none S' ∧ mHS 0 g t S' ∧ KX [] S S' ∧ sL S' = sL S ∧ ∀ k, heldBy S' k = heldBy S k := by
  obtain ⟨hP, hD, hT, hM, hL, hN, hG, hB, hg⟩ := h
  have hdec : ∃ S', Ans (d + 2) 262 [.ref 2, .int (nI o)] (wI 4603 (nI t) S) none S' ∧ FrL [4603] [6] [] S S' ∧ sI S' 4603 = nI t ∧ (∀ k, sA S' 6 k = if o ≠ 0 ∧ k = o then sA S 6 k - nI 1 else sA S 6 k) := by
    by_cases h0 : o = 0
    · subst h0
      exact ⟨_, unkeep_0, FrL_wI (by decide) (FrL.refl _ _ _ _), rIe _ _ _, fun k => by rw [if_neg (fun c => c.1 rfl)]; rfl⟩
    · refine ⟨_, unkeep_T (by omega) ho2, FrL_wA (by decide) (FrL_wI (by decide) (FrL.refl _ _ _ _)), (by show sI (wI 4603 (nI t) S) 4603 = nI t; exact rIe _ _ _), fun k => ?_⟩
      show upd (sA (wI 4603 (nI t) S) 6) o _ k = _
      rw [upd_at]
      by_cases e : k = o
      · rw [if_pos e, if_pos ⟨h0, e⟩, e]
        rfl
      · rw [if_neg e, if_neg (fun c => e c.2)]
        rfl
  obtain ⟨S', hA, hF, hT', h6⟩ := hdec
  have hF1 : FrL [4603] [4, 5, 6, 14] [47, 48] S S' := hF.mono (by decide) (by decide) (by decide)
  have eL : sL S' = sL S := funext fun a => hF.2.1 a List.not_mem_nil
  have eS : stE t S' = stE t S := stE_L (fun i _ => by rw [eL]; exact ⟨rfl, rfl⟩)
  have e3 : sA S' 3 = sA S 3 := hF.A (by decide)
  have hlv : ∀ k, lv S' k ↔ lv S k := fun k => by unfold lv; rw [e3]
  obtain ⟨hP2, hb⟩ := Hp_reL (f4 := no_e) (f5 := nmE S) (f6 := fun k => stE t S k + g k) hP hF1 (by decide) (by decide) (fun q q1 q2 => by
    obtain ⟨p4, p5, p6, p7, p8, p9⟩ := hP.2.2.2.2.2 q q1 q2
    have p6' : sA S 6 q = nI (stE (t + 1) S q + g q) := p6
    have p9' : stE (t + 1) S q + g q < 2 ^ 20 := p9
    clear p6 p9
    rw [stE_s (ob_n ho ho2) q1] at p6' p9'
    refine ⟨by rw [hF.A (by decide)]; exact p4, by rw [hF.A (by decide)]; exact p5, ?_, p7, p8, by omega⟩
    rw [h6 q]
    by_cases e : o ≠ 0 ∧ q = o
    · rw [if_pos e, p6', e.2, dl_e (by omega)]
      have e2 : stE t S o + 1 + g o = stE t S o + g o + 1 := by omega
      rw [e2, ← nI_add, Int32.add_sub_cancel]
    · rw [if_neg e, p6']
      have : dl o q = 0 := if_neg (fun c => e ⟨c.1, c.2⟩)
      rw [this]
      rfl)
  refine ⟨S', hA, ⟨by rw [nmE_L eL, eS]; exact hP2, fun k hk _ => ?_, hT', by omega, fun i hi => ?_, fun i hi => ?_, fun k hk => (hlv k).mpr (hG k hk), by rw [hF.I (by decide), nmB_L eL]; exact hB, hg⟩, KX_fr hF1, eL, hb⟩
  · have hk' := (hlv k).mp hk
    have := hD k hk' (by have := hk.1; omega)
    rw [stE_s (ob_n ho ho2) hk.1] at this
    rw [hb k, nmE_L eL, eS]
    by_cases e : k = o
    · have := hh.resolve_left (by have := hk.1; omega)
      rw [e]
      omega
    · rw [dl_n e] at this
      omega
  · obtain ⟨q, q1, q2, q3⟩ := hL i (by omega)
    exact ⟨q, q1, by rw [eL]; exact q2, q3.imp id (fun h => (hlv q).mpr h)⟩
  · obtain ⟨q, q1, q2, q3⟩ := hN i hi
    exact ⟨q, q1, by rw [eL]; exact q2, q3.imp id (fun h => (hlv q).mpr h)⟩
end
