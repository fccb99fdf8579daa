/-! THE REFERENCE'S MACHINE: key (377) -/
section
variable {d r t v2 v3 v4 v5 v6 v7 n m q w k : Nat} {S : cS} {kd : Int32} {xa xb : Int64}
/-- a thing in longer arrays of keys: the same keys -/
theorem grT_K (h : tRef S r t v2 v3 v4 v5 v6 v7 n m) (hnw : m < w) (hw : w < 2 ^ 20) : tRef (grT t 3 6 7 w m v3 v6 v7 S) r t v2 (108 + (sS S).length) v4 v5 (108 + (sS S).length + 1) (108 + (sS S).length + 2) n w := by
  obtain ⟨h1, h2, ⟨N, h3⟩, h4, h5, h6, h7, h8, h9, k1, k2, k3, k4, k5, k6, hn, hm, hr⟩ := h
  have l1 : (sS (grI (100 * t + 3) 0 w v3 m S)).length = (sS S).length + 1 := by rw [grI_S, List.length_append]; rfl
  have l2 : (sS (grL (100 * t + 6) w v6 m (grI (100 * t + 3) 0 w v3 m S))).length = (sS S).length + 2 := by rw [grL_S, List.length_append, l1]; rfl
  unfold grT
  refine ⟨by rw [grL_Q, grL_Q, grI_Q]; exact h1, h2, ⟨N, ?_⟩, ?_, ?_, ?_, ?_, ?_, ?_, ?_, ?_, ?_, ?_, ?_, ?_, hn, hw, by omega, by omega, by omega, by omega, by omega, by omega⟩
  · exact sS_old (grL_S _ _ _ _ _) (sS_old (grL_S _ _ _ _ _) (sS_old (grI_S _ _ _ _ _ _) h3))
  · rw [grL_V, if_neg (by omega), grL_V, if_neg (by omega), grI_V, if_neg (by omega)]; exact h4
  · rw [grL_V, if_neg (by omega), grL_V, if_neg (by omega), grI_V, if_pos rfl]
  · rw [grL_V, if_neg (by omega), grL_V, if_neg (by omega), grI_V, if_neg (by omega)]; exact h6
  · rw [grL_V, if_neg (by omega), grL_V, if_neg (by omega), grI_V, if_neg (by omega)]; exact h7
  · rw [grL_V, if_neg (by omega), grL_V, if_pos rfl, l1]; rfl
  · rw [grL_V, if_pos rfl, l2]; rfl
  · exact grL_o (grL_o (grI_o k1))
  · exact grL_o (grL_o grI_k)
  · exact grL_o (grL_o (grI_o k3))
  · exact grL_o (grL_o (grI_o k4))
  · have := grL_o (id := 100 * t + 7) (n := w) (g := v7) (N := m) (grL_k (id := 100 * t + 6) (n := w) (g := v6) (N := m) (S := grI (100 * t + 3) 0 w v3 m S))
    rw [l1] at this
    exact this
  · have := grL_k (id := 100 * t + 7) (n := w) (g := v7) (N := m) (S := grL (100 * t + 6) w v6 m (grI (100 * t + 3) 0 w v3 m S))
    rw [l2] at this
    exact this
theorem grT_keys (h : tRef S r t v2 v3 v4 v5 v6 v7 n m) : (∀ i, i < m → sA (grT t 3 6 7 w m v3 v6 v7 S) (108 + (sS S).length) i = sA S v3 i) ∧ (∀ i, i < m → sL (grT t 3 6 7 w m v3 v6 v7 S) (108 + (sS S).length + 1) i = sL S v6 i) ∧ (∀ i, i < m → sL (grT t 3 6 7 w m v3 v6 v7 S) (108 + (sS S).length + 2) i = sL S v7 i) ∧ (∀ a, a < 108 + (sS S).length → sA (grT t 3 6 7 w m v3 v6 v7 S) a = sA S a ∧ sL (grT t 3 6 7 w m v3 v6 v7 S) a = sL S a) ∧ sI (grT t 3 6 7 w m v3 v6 v7 S) = sI S := by
  obtain ⟨h1, h2, ⟨N, h3⟩, h4, h5, h6, h7, h8, h9, k1, k2, k3, k4, k5, k6, hn, hm, hr⟩ := h
  have l1 : (sS (grI (100 * t + 3) 0 w v3 m S)).length = (sS S).length + 1 := by rw [grI_S, List.length_append]; rfl
  have l2 : (sS (grL (100 * t + 6) w v6 m (grI (100 * t + 3) 0 w v3 m S))).length = (sS S).length + 2 := by rw [grL_S, List.length_append, l1]; rfl
  have b4 := isK_lt k5
  have b5 := isK_lt k6
  unfold grT
  refine ⟨fun i hi => ?_, fun i hi => ?_, fun i hi => ?_, fun a ha => ⟨?_, ?_⟩, by rw [grL_I, grL_I, grI_I]⟩
  · rw [grL_A, grL_A, grI_A, if_pos rfl]
    exact cpI_at hi
  · rw [grL_L, if_neg (by rw [l2]; omega), grL_L, if_pos (by rw [l1]; rfl), grI_L]
    exact cpL_at hi
  · rw [grL_L, if_pos (by rw [l2]; rfl), grL_L, if_neg (by rw [l1]; omega), grI_L]
    exact cpL_at hi
  · rw [grL_A, grL_A, grI_A, if_neg (by omega)]
  · rw [grL_L, if_neg (by rw [l2]; omega), grL_L, if_neg (by rw [l1]; omega), grI_L]
/-- behind key -/
def keyW (k v3 v6 v7 : Nat) (kd : Int32) (xa xb : Int64) (S : cS) : cS := wL v7 k xb (wL v6 k xa (wA v3 k kd S))
theorem keyW_A (a : Nat) : sA (keyW k v3 v6 v7 kd xa xb S) a = if a = v3 then va_up (sA S v3) k kd else sA S a := rfl
theorem keyW_L (h67 : v6 ≠ v7) (a : Nat) : sL (keyW k v3 v6 v7 kd xa xb S) a = if a = v7 then vp_updL (sL S v7) k xb else if a = v6 then vp_updL (sL S v6) k xa else sL S a := by
  show sL (wL v7 k xb (wL v6 k xa (wA v3 k kd S))) a = _
  rw [rL]
  have e5 : sL (wL v6 k xa (wA v3 k kd S)) v7 = sL S v7 := by
    rw [rL, if_neg (fun c => h67 c.symm)]
    rfl
  by_cases h : a = v7
  · rw [if_pos h, if_pos h, e5]
  · rw [if_neg h, if_neg h, rL]
    rfl
theorem keyW_T (h : tRef S r t v2 v3 v4 v5 v6 v7 n m) : tRef (keyW k v3 v6 v7 kd xa xb S) r t v2 v3 v4 v5 v6 v7 n m := by
  obtain ⟨h1, h2, ⟨N, h3⟩, h4, h5, h6, h7, h8, h9, k1, k2, k3, k4, k5, k6, hr⟩ := h
  have e : sS (keyW k v3 v6 v7 kd xa xb S) = sS S := rfl
  exact ⟨h1, h2, ⟨N, by rw [e]; exact h3⟩, h4, h5, h6, h7, h8, h9, isK_S e k1, isK_S e k2, isK_S e k3, isK_S e k4, isK_S e k5, isK_S e k6, hr⟩
/-- key, where there is room -/
theorem rkey_0 (h : tRef S r t v2 v3 v4 v5 v6 v7 n m) (hk : k < m) {S1 : cS} {s2 s3 s4 s5 s6 s7 p q : Nat} (h0 : tRef S1 r t s2 s3 s4 s5 s6 s7 p q) (hr : Ans (d + 9) 378 [.ref t, .int (nI (k + 1))] S1 none S) (hx : ∃ l, sS S = sS S1 ++ l) : Ans (d + 10) 377 [.ref t, .int (nI k), .int kd, .long xa, .long xb] S1 none (keyW k v3 v6 v7 kd xa xb S) := by
  obtain ⟨h1, h2, h3, h4, h5, h6, h7, h8, h9, k1, k2, k3, k4, k5, k6, hn, hm, hrr⟩ := h
  obtain ⟨g1, g2, ⟨N', g3⟩, grest⟩ := h0
  obtain ⟨l, hx⟩ := hx
  have e2 : (sS S)[t - 108]? = some (13, N') := sS_old hx g3
  exact Ans.of (by rw [ml_377]; exact Nat.le_of_ble_eq_true rfl) (Bod.lv (by rfl) (rKe_1 (d := d + 1) (zg := N') (by omega) g2 hr g3 e2 h5 k2 hm hk h8 k5 hm hk h9 k6 hm hk))
theorem keyW_tF (h : tRef S r t v2 v3 v4 v5 v6 v7 n m) (h67 : v6 ≠ v7) : tF r t S (keyW k v3 v6 v7 kd xa xb S) := by
  have h0 := h
  have hw := keyW_T (k := k) (kd := kd) (xa := xa) (xb := xb) h
  obtain ⟨h1, h2, h3, h4, h5, h6, h7, h8, h9, k1, k2, k3, k4, k5, k6, hn, hm, g2, g3, g4, g5, g6, g7⟩ := h
  refine ⟨rfl, rfl, ⟨[], (List.append_nil _).symm⟩, fun i hi => ⟨rfl, rfl⟩, fun a _ _ hn => ⟨?_, ?_⟩, ?_, fun p hp => ?_, fun f v _ _ hv => Or.inl hv, ?_, ?_⟩
  · rw [keyW_A, if_neg (fun (c : a = _) => hn 3 (by omega) (by omega) (by rw [c]; exact h5))]
  · rw [keyW_L h67, if_neg (fun (c : a = _) => hn 7 (by omega) (by omega) (by rw [c]; exact h9)), if_neg (fun (c : a = _) => hn 6 (by omega) (by omega) (by rw [c]; exact h8))]
  · rw [keyW_L h67, if_neg (by omega), if_neg (by omega)]
  · rw [keyW_A, if_neg (by omega)]
  · rw [(tc_ref h0).1, (tc_ref hw).1]; rfl
  · rw [(tc_ref h0).2, (tc_ref hw).2]; rfl
/-- the keys' arrays are made longer -/
theorem grT_tF3 (h : tRef S r t v2 v3 v4 v5 v6 v7 n m) (hc : (m = 4 ∧ w = 32) ∨ (m = 32 ∧ w = 104)) : tF r t S (grT t 3 6 7 w m v3 v6 v7 S) := by
  have hT := grT_K (w := w) h (by omega) (by omega)
  obtain ⟨_, _, _, xo, xI⟩ := grT_keys (w := w) h
  have l1 : (sS (grI (100 * t + 3) 0 w v3 m S)).length = (sS S).length + 1 := by rw [grI_S, List.length_append]; rfl
  have l2 : (sS (grL (100 * t + 6) w v6 m (grI (100 * t + 3) 0 w v3 m S))).length = (sS S).length + 2 := by rw [grL_S, List.length_append, l1]; rfl
  have eV : ∀ i, sV (grT t 3 6 7 w m v3 v6 v7 S) i = if i = 100 * t + 7 then .ref (108 + (sS S).length + 2) else if i = 100 * t + 6 then .ref (108 + (sS S).length + 1) else if i = 100 * t + 3 then .ref (108 + (sS S).length) else sV S i := fun i => by
    unfold grT
    rw [grL_V, grL_V, grI_V, l2, l1]
    rfl
  refine ⟨by unfold grT; rw [grL_J, grL_J, grI_J], by unfold grT; rw [grL_Q, grL_Q, grI_Q], ⟨_, grT_S _ _ _ _ _ _ _ _ _ _⟩, fun i hi => ⟨by rw [xI], ?_⟩, fun a _ hl _ => xo a hl, (xo 87 (by omega)).2, fun p _ => by rw [(xo 87 (by omega)).1], fun f v _ _ hv => ?_, ?_, ?_⟩
  · rw [eV, if_neg (hi 7 (by omega)), if_neg (hi 6 (by omega)), if_neg (hi 3 (by omega))]
  · rw [eV] at hv
    split at hv
    · exact Or.inr (by have hv : 108 + (sS S).length + 2 = v := by injection hv
                       omega)
    split at hv
    · exact Or.inr (by have hv : 108 + (sS S).length + 1 = v := by injection hv
                       omega)
    split at hv
    · exact Or.inr (by have hv : 108 + (sS S).length = v := by injection hv
                       omega)
    exact Or.inl hv
  · rw [(tc_ref h).1, (tc_ref hT).1]
    have : mu (grT t 3 6 7 w m v3 v6 v7 S) = mu S + w + w + w := by unfold grT; rw [grL_m, grL_m, grI_m]
    rw [this]
    rcases hc with ⟨rfl, rfl⟩ | ⟨rfl, rfl⟩ <;> (unfold kC; simp only [Nat.reduceLeDiff, if_true, if_false, ite_true, ite_false]; omega)
  · rw [(tc_ref h).2, (tc_ref hT).2, grT_S, List.length_append]
    rcases hc with ⟨rfl, rfl⟩ | ⟨rfl, rfl⟩ <;> (unfold vN; simp only [Nat.reduceLeDiff, if_true, if_false, ite_true, ite_false, List.length_cons, List.length_nil]; omega)
theorem grT_z3 (h : tRef S r t v2 v3 v4 v5 v6 v7 n m) {j : Nat} (hj : m ≤ j) : sA (grT t 3 6 7 w m v3 v6 v7 S) (108 + (sS S).length) j = 0 := by
  unfold grT
  rw [grL_A, grL_A, grI_A, if_pos rfl]
  unfold cpI va_cpy
  rw [if_neg (by omega)]
/-- what key leaves: the key, and all else as it was -/
def keyQ (S W : cS) (r t v2 v3 v4 v5 v6 v7 n m k : Nat) (kd : Int32) (xa xb : Int64) : Prop := ∃ w3 w6 w7 m', tRef W r t v2 w3 v4 v5 w6 w7 n m' ∧ dsV v2 w3 v4 v5 w6 w7 ∧ k + 1 ≤ m' ∧ (∀ i, i < k → sA W w3 i = sA S v3 i ∧ sL W w6 i = sL S v6 i ∧ sL W w7 i = sL S v7 i) ∧ sA W w3 k = kd ∧ sL W w6 k = xa ∧ sL W w7 k = xb ∧ sA W v2 = sA S v2 ∧ sL W v4 = sL S v4 ∧ sL W v5 = sL S v5 ∧ (∀ a, a < 108 + (sS S).length → a ≠ v3 → sA W a = sA S a) ∧ (∀ a, a < 108 + (sS S).length → a ≠ v6 → a ≠ v7 → sL W a = sL S a) ∧ sI W = sI S ∧ (∃ l, sS W = sS S ++ l) ∧ tLn n m' ∧ tF r t S W ∧ ((∀ j, j < m → ∃ e, e < 2 ^ 20 ∧ sA S v3 j = nI e) → (∃ e, e < 2 ^ 20 ∧ kd = nI e) → ∀ j, j < m' → ∃ e, e < 2 ^ 20 ∧ sA W w3 j = nI e)
theorem rkey_T (h : tRef S r t v2 v3 v4 v5 v6 v7 n m) (hd : dsV v2 v3 v4 v5 v6 v7) (hkm : k ≤ m) (hk3 : k < 104) (hl : tLn n m) : ∃ W, Ans (d + 10) 377 [.ref t, .int (nI k), .int kd, .long xa, .long xb] S none W ∧ keyQ S W r t v2 v3 v4 v5 v6 v7 n m k kd xa xb := by
  obtain ⟨d23, d45, d46, d47, d56, d57, d67⟩ := hd
  by_cases hc : k < m
  · refine ⟨_, rkey_0 (d := d) h hc h (rkroom_0 h hc) ⟨[], (List.append_nil _).symm⟩, v3, v6, v7, m, keyW_T h, ⟨d23, d45, d46, d47, d56, d57, d67⟩, hc, fun i hi => ⟨?_, ?_, ?_⟩, ?_, ?_, ?_, ?_, ?_, ?_, fun a _ ha => ?_, fun a _ ha hb => ?_, rfl, ⟨[], (List.append_nil _).symm⟩, hl, keyW_tF h d67, fun hK hk j hj => ?_⟩
    · rw [keyW_A, if_pos rfl]; exact if_neg (by omega)
    · rw [keyW_L d67, if_neg d67, if_pos rfl]; exact if_neg (by omega)
    · rw [keyW_L d67, if_pos rfl]; exact if_neg (by omega)
    · rw [keyW_A, if_pos rfl]; exact if_pos rfl
    · rw [keyW_L d67, if_neg d67, if_pos rfl]; exact if_pos rfl
    · rw [keyW_L d67, if_pos rfl]; exact if_pos rfl
    · rw [keyW_A, if_neg d23]
    · rw [keyW_L d67, if_neg d47, if_neg d46]
    · rw [keyW_L d67, if_neg d57, if_neg d56]
    · rw [keyW_A, if_neg ha]
    · rw [keyW_L d67, if_neg hb, if_neg ha]
    · rw [keyW_A, if_pos rfl]
      by_cases c : j = k
      · rw [show va_up (sA S v3) k kd j = kd from if_pos c]; exact hk
      · rw [show va_up (sA S v3) k kd j = sA S v3 j from if_neg c]; exact hK j hj
  · obtain rfl : k = m := by omega
    obtain ⟨w, hw, hzw, hw2⟩ : ∃ w, ((k + 1 ≤ 32 ∧ w = 32) ∨ (32 < k + 1 ∧ k + 1 ≤ 104 ∧ w = 104)) ∧ k + 1 ≤ w ∧ w < 2 ^ 20 := by
      by_cases h32 : k + 1 ≤ 32
      · exact ⟨32, Or.inl ⟨h32, rfl⟩, h32, by omega⟩
      · exact ⟨104, Or.inr ⟨by omega, by omega, rfl⟩, by omega, by omega⟩
    have hT := grT_K (w := w) h (by omega) hw2
    have hX := grT_tF3 (w := w) h (by obtain ⟨_, l2⟩ := hl; omega)
    have hX3 := fun j (hj : k ≤ j) => grT_z3 (w := w) h hj
    obtain ⟨x3, x6, x7, xo, xI⟩ := grT_keys (w := w) h
    have hroom := rkroom_w (d := d) (q := k + 1) h (by omega) hw
    have hS := grT_S t 3 6 7 w k v3 v6 v7 S
    obtain ⟨h1, h2, h3, h4, h5, h6, h7, h8, h9, k1, k2, k3, k4, k5, k6, hr⟩ := h
    have b2 := isK_lt k1
    have b3 := isK_lt k2
    have b4 := isK_lt k3
    have b5 := isK_lt k4
    have b6 := isK_lt k5
    have b7 := isK_lt k6
    have h0 : tRef S r t v2 v3 v4 v5 v6 v7 n k := ⟨h1, h2, h3, h4, h5, h6, h7, h8, h9, k1, k2, k3, k4, k5, k6, hr⟩
    generalize grT t 3 6 7 w k v3 v6 v7 S = X at hT x3 x6 x7 xo xI hroom hS hX hX3
    have e67 : 108 + (sS S).length + 1 ≠ 108 + (sS S).length + 2 := by omega
    refine ⟨_, rkey_0 (d := d) hT hzw h0 hroom ⟨_, hS⟩, 108 + (sS S).length, 108 + (sS S).length + 1, 108 + (sS S).length + 2, w, keyW_T hT, ⟨by omega, d45, by omega, by omega, by omega, by omega, by omega⟩, hzw, fun i hi => ⟨?_, ?_, ?_⟩, ?_, ?_, ?_, ?_, ?_, ?_, fun a ha _ => ?_, fun a ha _ _ => ?_, xI, ⟨_, hS⟩, ⟨hl.1, by omega⟩, tF.trans hX (keyW_tF hT e67) (fun f v f2 f7 hv => (tRef_v h0 f2 f7 hv).2.1), fun hK hk j hj => ?_⟩
    · rw [keyW_A, if_pos rfl]; exact (if_neg (by omega)).trans (x3 i hi)
    · rw [keyW_L e67, if_neg e67, if_pos rfl]; exact (if_neg (by omega)).trans (x6 i hi)
    · rw [keyW_L e67, if_pos rfl]; exact (if_neg (by omega)).trans (x7 i hi)
    · rw [keyW_A, if_pos rfl]; exact if_pos rfl
    · rw [keyW_L e67, if_neg e67, if_pos rfl]; exact if_pos rfl
    · rw [keyW_L e67, if_pos rfl]; exact if_pos rfl
    · rw [keyW_A, if_neg (by omega)]; exact (xo v2 b2).1
    · rw [keyW_L e67, if_neg (by omega), if_neg (by omega)]; exact (xo v4 b4).2
    · rw [keyW_L e67, if_neg (by omega), if_neg (by omega)]; exact (xo v5 b5).2
    · rw [keyW_A, if_neg (by omega)]; exact (xo a ha).1
    · rw [keyW_L e67, if_neg (by omega), if_neg (by omega)]; exact (xo a ha).2
    · rw [keyW_A, if_pos rfl]
      by_cases c : j = k
      · rw [show va_up (sA X (108 + (sS S).length)) k kd j = kd from if_pos c]; exact hk
      · rw [show va_up (sA X (108 + (sS S).length)) k kd j = sA X (108 + (sS S).length) j from if_neg c]
        by_cases c2 : j < k
        · rw [x3 j c2]; exact hK j c2
        · rw [hX3 j (by omega)]; exact ⟨0, by omega, rfl⟩
end
