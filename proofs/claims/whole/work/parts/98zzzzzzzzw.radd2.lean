/-! THE REFERENCE'S MACHINE: add (375) -/
section
variable {d r t v2 v3 v4 v5 v6 v7 n m q w z : Nat} {S : cS} {kd : Int32} {xa xb : Int64}
/-- behind set and the count -/
def addW (t z v2 v4 v5 : Nat) (kd : Int32) (xa xb : Int64) (S : cS) : cS := wI (100 * t + 1) (nI (z + 1)) (wL v5 z xb (wL v4 z xa (wA v2 z kd S)))
theorem addW_A (a : Nat) : sA (addW t z v2 v4 v5 kd xa xb S) a = if a = v2 then va_up (sA S v2) z kd else sA S a := rfl
theorem addW_L (h45 : v4 ≠ v5) (a : Nat) : sL (addW t z v2 v4 v5 kd xa xb S) a = if a = v5 then vp_updL (sL S v5) z xb else if a = v4 then vp_updL (sL S v4) z xa else sL S a := by
  show sL (wL v5 z xb (wL v4 z xa (wA v2 z kd S))) a = _
  rw [rL]
  have e5 : sL (wL v4 z xa (wA v2 z kd S)) v5 = sL S v5 := by
    rw [rL, if_neg (fun c => h45 c.symm)]
    rfl
  by_cases h : a = v5
  · rw [if_pos h, if_pos h, e5]
  · rw [if_neg h, if_neg h, rL]
    rfl
theorem addW_T (h : tRef S r t v2 v3 v4 v5 v6 v7 n m) : tRef (addW t z v2 v4 v5 kd xa xb S) r t v2 v3 v4 v5 v6 v7 n m := by
  obtain ⟨h1, h2, ⟨N, h3⟩, h4, h5, h6, h7, h8, h9, k1, k2, k3, k4, k5, k6, hr⟩ := h
  have e : sS (addW t z v2 v4 v5 kd xa xb S) = sS S := rfl
  exact ⟨h1, h2, ⟨N, by rw [e]; exact h3⟩, h4, h5, h6, h7, h8, h9, isK_S e k1, isK_S e k2, isK_S e k3, isK_S e k4, isK_S e k5, isK_S e k6, hr⟩
theorem addW_tF (h : tRef S r t v2 v3 v4 v5 v6 v7 n m) (h45 : v4 ≠ v5) : tF r t S (addW t z v2 v4 v5 kd xa xb S) := by
  have h0 := h
  have hw := addW_T (z := z) (kd := kd) (xa := xa) (xb := xb) h
  obtain ⟨h1, h2, h3, h4, h5, h6, h7, h8, h9, k1, k2, k3, k4, k5, k6, hn, hm, g2, g3, g4, g5, g6, g7⟩ := h
  refine ⟨rfl, rfl, ⟨[], (List.append_nil _).symm⟩, fun i hi => ⟨if_neg (hi 1 (by omega)), rfl⟩, fun a _ _ hn => ⟨?_, ?_⟩, ?_, fun p hp => ?_, fun f v _ _ hv => Or.inl hv, ?_, ?_⟩
  · rw [addW_A, if_neg (fun (c : a = _) => hn 2 (by omega) (by omega) (by rw [c]; exact h4))]
  · rw [addW_L h45, if_neg (fun (c : a = _) => hn 5 (by omega) (by omega) (by rw [c]; exact h7)), if_neg (fun (c : a = _) => hn 4 (by omega) (by omega) (by rw [c]; exact h6))]
  · rw [addW_L h45, if_neg (by omega), if_neg (by omega)]
  · rw [addW_A, if_neg (by omega)]
  · rw [(tc_ref h0).1, (tc_ref hw).1]; rfl
  · rw [(tc_ref h0).2, (tc_ref hw).2]; rfl
/-- the values' arrays are made longer -/
theorem grT_tF2 (h : tRef S r t v2 v3 v4 v5 v6 v7 n m) (hc : (n = 4 ∧ w = 32) ∨ (n = 32 ∧ w = 304)) : tF r t S (grT t 2 4 5 w n v2 v4 v5 S) := by
  have hT := grT_V (w := w) h (by omega) (by omega)
  obtain ⟨_, _, _, xo, xI⟩ := grT_vals (w := w) h
  have l1 : (sS (grI (100 * t + 2) 0 w v2 n S)).length = (sS S).length + 1 := by rw [grI_S, List.length_append]; rfl
  have l2 : (sS (grL (100 * t + 4) w v4 n (grI (100 * t + 2) 0 w v2 n S))).length = (sS S).length + 2 := by rw [grL_S, List.length_append, l1]; rfl
  have eV : ∀ i, sV (grT t 2 4 5 w n v2 v4 v5 S) i = if i = 100 * t + 5 then .ref (108 + (sS S).length + 2) else if i = 100 * t + 4 then .ref (108 + (sS S).length + 1) else if i = 100 * t + 2 then .ref (108 + (sS S).length) else sV S i := fun i => by
    unfold grT
    rw [grL_V, grL_V, grI_V, l2, l1]
    rfl
  refine ⟨by unfold grT; rw [grL_J, grL_J, grI_J], by unfold grT; rw [grL_Q, grL_Q, grI_Q], ⟨_, grT_S _ _ _ _ _ _ _ _ _ _⟩, fun i hi => ⟨by rw [xI], ?_⟩, fun a _ hl _ => xo a hl, (xo 87 (by omega)).2, fun p _ => by rw [(xo 87 (by omega)).1], fun f v _ _ hv => ?_, ?_, ?_⟩
  · rw [eV, if_neg (hi 5 (by omega)), if_neg (hi 4 (by omega)), if_neg (hi 2 (by omega))]
  · rw [eV] at hv
    split at hv
    · exact Or.inr (by have hv : 108 + (sS S).length + 2 = v := by injection hv
                       omega)
    split at hv
    · exact Or.inr (by have hv : 108 + (sS S).length + 1 = v := by injection hv
                       omega)
    split at hv
    · exact Or.inr (by have hv : 108 + (sS S).length = v := by injection hv
                       omega)
    exact Or.inl hv
  · rw [(tc_ref h).1, (tc_ref hT).1]
    have : mu (grT t 2 4 5 w n v2 v4 v5 S) = mu S + w + w + w := by unfold grT; rw [grL_m, grL_m, grI_m]
    rw [this]
    rcases hc with ⟨rfl, rfl⟩ | ⟨rfl, rfl⟩ <;> (unfold vC; simp only [Nat.reduceLeDiff, if_true, if_false, ite_true, ite_false]; omega)
  · rw [(tc_ref h).2, (tc_ref hT).2, grT_S, List.length_append]
    rcases hc with ⟨rfl, rfl⟩ | ⟨rfl, rfl⟩ <;> (unfold vN; simp only [Nat.reduceLeDiff, if_true, if_false, ite_true, ite_false, List.length_cons, List.length_nil]; omega)
/-- add, where there is room -/
theorem radd_0 (h : tRef S r t v2 v3 v4 v5 v6 v7 n m) (hz : sI S (100 * t + 1) = nI z) (hzn : z < n) {S1 : cS} {s2 s3 s4 s5 s6 s7 p q : Nat} (h0 : tRef S1 r t s2 s3 s4 s5 s6 s7 p q) (hz0 : sI S1 (100 * t + 1) = nI z) (hr : Ans (d + 9) 376 [.ref t, .int (nI (z + 1))] S1 none S) (hx : ∃ l, sS S = sS S1 ++ l) : Ans (d + 10) 375 [.ref t, .int kd, .long xa, .long xb] S1 none (addW t z v2 v4 v5 kd xa xb S) := by
  have hset := rset_T (d := d) (kd := kd) (xa := xa) (xb := xb) h hzn
  obtain ⟨h1, h2, ⟨N, h3⟩, hrest⟩ := h
  obtain ⟨g1, g2, ⟨N', g3⟩, grest⟩ := h0
  have hn : n < 2 ^ 20 := hrest.2.2.2.2.2.2.2.2.2.2.2.2.1
  refine Ans.of (by rw [ml_375]; exact Nat.le_of_ble_eq_true rfl) (Bod.lv (by rfl) ?_)
  obtain ⟨l, hx⟩ := hx
  have e2 : (sS S)[t - 108]? = some (13, N') := sS_old hx g3
  have e3 : (sS (wL v5 z xb (wL v4 z xa (wA v2 z kd S))))[t - 108]? = some (13, N') := e2
  have eI : sI (wL v5 z xb (wL v4 z xa (wA v2 z kd S))) (100 * t + 1) = nI z := hz
  exact rAd_1 (d := d + 1) (zg := N') g2 g3 hz0 (by omega) hr e2 hz (by omega) hset e3 eI (by omega)
/-- what add leaves: the value, and all else as it was -/
def addR (S W : cS) (r t v2 v3 v4 v5 v6 v7 z m : Nat) (kd : Int32) (xa xb : Int64) : Prop := ∃ w2 w4 w5 n', tRef W r t w2 v3 w4 w5 v6 v7 n' m ∧ dsV w2 v3 w4 w5 v6 v7 ∧ z + 1 ≤ n' ∧ sI W (100 * t + 1) = nI (z + 1) ∧ (∀ i, i < z → sA W w2 i = sA S v2 i ∧ sL W w4 i = sL S v4 i ∧ sL W w5 i = sL S v5 i) ∧ sA W w2 z = kd ∧ sL W w4 z = xa ∧ sL W w5 z = xb ∧ sA W v3 = sA S v3 ∧ sL W v6 = sL S v6 ∧ sL W v7 = sL S v7 ∧ (∀ a, a < 108 + (sS S).length → a ≠ v2 → sA W a = sA S a) ∧ (∀ a, a < 108 + (sS S).length → a ≠ v4 → a ≠ v5 → sL W a = sL S a) ∧ (∀ i, i ≠ 100 * t + 1 → sI W i = sI S i) ∧ (∃ l, sS W = sS S ++ l) ∧ tLn n' m ∧ tF r t S W
theorem radd_T (h : tRef S r t v2 v3 v4 v5 v6 v7 n m) (hd : dsV v2 v3 v4 v5 v6 v7) (hz : sI S (100 * t + 1) = nI z) (hzn : z ≤ n) (hz3 : z < 304) (hl : tLn n m) : ∃ W, Ans (d + 10) 375 [.ref t, .int kd, .long xa, .long xb] S none W ∧ addR S W r t v2 v3 v4 v5 v6 v7 z m kd xa xb := by
  obtain ⟨d23, d45, d46, d47, d56, d57, d67⟩ := hd
  by_cases hc : z < n
  · refine ⟨_, radd_0 (d := d) h hz hc h hz (rroom_0 h hc) ⟨[], (List.append_nil _).symm⟩, v2, v4, v5, n, addW_T h, ⟨d23, d45, d46, d47, d56, d57, d67⟩, hc, if_pos rfl, fun i hi => ⟨?_, ?_, ?_⟩, ?_, ?_, ?_, ?_, ?_, ?_, fun a _ ha => ?_, fun a _ ha hb => ?_, fun i hi => ?_, ⟨[], (List.append_nil _).symm⟩, hl, addW_tF h d45⟩
    · rw [addW_A, if_pos rfl]; exact if_neg (by omega)
    · rw [addW_L d45, if_neg d45, if_pos rfl]; exact if_neg (by omega)
    · rw [addW_L d45, if_pos rfl]; exact if_neg (by omega)
    · rw [addW_A, if_pos rfl]; exact if_pos rfl
    · rw [addW_L d45, if_neg d45, if_pos rfl]; exact if_pos rfl
    · rw [addW_L d45, if_pos rfl]; exact if_pos rfl
    · rw [addW_A, if_neg (fun c => d23 c.symm)]
    · rw [addW_L d45, if_neg (fun c => d56 c.symm), if_neg (fun c => d46 c.symm)]
    · rw [addW_L d45, if_neg (fun c => d57 c.symm), if_neg (fun c => d47 c.symm)]
    · rw [addW_A, if_neg ha]
    · rw [addW_L d45, if_neg hb, if_neg ha]
    · exact if_neg hi
  · obtain rfl : z = n := by omega
    obtain ⟨w, hw, hzw, hw2⟩ : ∃ w, ((z + 1 ≤ 32 ∧ w = 32) ∨ (32 < z + 1 ∧ z + 1 ≤ 304 ∧ w = 304)) ∧ z + 1 ≤ w ∧ w < 2 ^ 20 := by
      by_cases h32 : z + 1 ≤ 32
      · exact ⟨32, Or.inl ⟨h32, rfl⟩, h32, by omega⟩
      · exact ⟨304, Or.inr ⟨by omega, by omega, rfl⟩, by omega, by omega⟩
    have hT := grT_V (w := w) h (by omega) hw2
    have hX := grT_tF2 (w := w) h (by obtain ⟨l1, _⟩ := hl; omega)
    obtain ⟨x2, x4, x5, xo, xI⟩ := grT_vals (w := w) h
    have hroom := rroom_w (d := d) (q := z + 1) h (by omega) hw
    have hS := grT_S t 2 4 5 w z v2 v4 v5 S
    obtain ⟨h1, h2, h3, h4, h5, h6, h7, h8, h9, k1, k2, k3, k4, k5, k6, hr⟩ := h
    have b2 := isK_lt k1
    have b3 := isK_lt k2
    have b4 := isK_lt k3
    have b5 := isK_lt k4
    have b6 := isK_lt k5
    have b7 := isK_lt k6
    have h0 : tRef S r t v2 v3 v4 v5 v6 v7 z m := ⟨h1, h2, h3, h4, h5, h6, h7, h8, h9, k1, k2, k3, k4, k5, k6, hr⟩
    have hz' : sI (grT t 2 4 5 w z v2 v4 v5 S) (100 * t + 1) = nI z := by rw [xI]; exact hz
    generalize grT t 2 4 5 w z v2 v4 v5 S = X at hT x2 x4 x5 xo xI hroom hS hz' hX
    have e45 : 108 + (sS S).length + 1 ≠ 108 + (sS S).length + 2 := by omega
    refine ⟨_, radd_0 (d := d) hT hz' hzw h0 hz hroom ⟨_, hS⟩, 108 + (sS S).length, 108 + (sS S).length + 1, 108 + (sS S).length + 2, w, addW_T hT, ⟨by omega, by omega, by omega, by omega, by omega, by omega, d67⟩, hzw, if_pos rfl, fun i hi => ⟨?_, ?_, ?_⟩, ?_, ?_, ?_, ?_, ?_, ?_, fun a ha _ => ?_, fun a ha _ _ => ?_, fun i hi => ?_, ⟨_, hS⟩, ⟨by omega, hl.2⟩, tF.trans hX (addW_tF hT e45) (fun f v f2 f7 hv => (tRef_v h0 f2 f7 hv).2.1)⟩
    · rw [addW_A, if_pos rfl]; exact (if_neg (by omega)).trans (x2 i hi)
    · rw [addW_L e45, if_neg e45, if_pos rfl]; exact (if_neg (by omega)).trans (x4 i hi)
    · rw [addW_L e45, if_pos rfl]; exact (if_neg (by omega)).trans (x5 i hi)
    · rw [addW_A, if_pos rfl]; exact if_pos rfl
    · rw [addW_L e45, if_neg e45, if_pos rfl]; exact if_pos rfl
    · rw [addW_L e45, if_pos rfl]; exact if_pos rfl
    · rw [addW_A, if_neg (by omega)]; exact (xo v3 b3).1
    · rw [addW_L e45, if_neg (by omega), if_neg (by omega)]; exact (xo v6 b6).2
    · rw [addW_L e45, if_neg (by omega), if_neg (by omega)]; exact (xo v7 b7).2
    · rw [addW_A, if_neg (by omega)]; exact (xo a ha).1
    · rw [addW_L e45, if_neg (by omega), if_neg (by omega)]; exact (xo a ha).2
    · exact (if_neg hi).trans (congrFun xI i)
end
