/-! THE REFERENCE'S MACHINE: remove (418) -/
section
variable {d r t v2 v3 v4 v5 v6 v7 n m q z i at' : Nat} {S : cS}
theorem keyW_T2 {k : Nat} {kd : Int32} {xa xb : Int64} (h : tRef S r t v2 v3 v4 v5 v6 v7 n m) : tRef (keyW k v2 v4 v5 kd xa xb S) r t v2 v3 v4 v5 v6 v7 n m := by
  obtain ⟨h1, h2, ⟨N, h3⟩, h4, h5, h6, h7, h8, h9, k1, k2, k3, k4, k5, k6, hr⟩ := h
  have e : sS (keyW k v2 v4 v5 kd xa xb S) = sS S := rfl
  exact ⟨h1, h2, ⟨N, by rw [e]; exact h3⟩, h4, h5, h6, h7, h8, h9, isK_S e k1, isK_S e k2, isK_S e k3, isK_S e k4, isK_S e k5, isK_S e k6, hr⟩
/-- what a turn of remove leaves: entry i is entry i + 1 -/
def remQ (S W : cS) (v2 v3 v4 v5 v6 v7 m i j : Nat) : Prop := (∀ q, sA W v2 q = if i ≤ q ∧ q < j then sA S v2 (q + 1) else sA S v2 q) ∧ (∀ q, sL W v4 q = if i ≤ q ∧ q < j then sL S v4 (q + 1) else sL S v4 q) ∧ (∀ q, sL W v5 q = if i ≤ q ∧ q < j then sL S v5 (q + 1) else sL S v5 q) ∧ (∀ q, sA W v3 q = if i ≤ q ∧ q < j ∧ q + 1 < m then sA S v3 (q + 1) else sA S v3 q) ∧ (∀ q, sL W v6 q = if i ≤ q ∧ q < j ∧ q + 1 < m then sL S v6 (q + 1) else sL S v6 q) ∧ (∀ q, sL W v7 q = if i ≤ q ∧ q < j ∧ q + 1 < m then sL S v7 (q + 1) else sL S v7 q) ∧ (∀ a, a ≠ v2 → a ≠ v3 → sA W a = sA S a) ∧ (∀ a, a ≠ v4 → a ≠ v5 → a ≠ v6 → a ≠ v7 → sL W a = sL S a) ∧ sI W = sI S ∧ sS W = sS S ∧ sQ W = sQ S ∧ sV W = sV S ∧ sJ W = sJ S ∧ mu W = mu S
theorem remQ_refl : remQ S S v2 v3 v4 v5 v6 v7 m i i :=
  ⟨fun q => (if_neg (by omega)).symm, fun q => (if_neg (by omega)).symm, fun q => (if_neg (by omega)).symm, fun q => (if_neg (by omega)).symm, fun q => (if_neg (by omega)).symm, fun q => (if_neg (by omega)).symm, fun _ _ _ => rfl, fun _ _ _ _ _ => rfl, rfl, rfl, rfl, rfl, rfl, rfl⟩
theorem upA8 {f : Nat → Int32} {i q : Nat} {x : Int32} : va_up f i x q = if q = i then x else f q := rfl
theorem upL8 {f : Nat → Int64} {i q : Nat} {x : Int64} : vp_updL f i x q = if q = i then x else f q := rfl
/-- one turn -/
theorem rem_turn (h : tRef S r t v2 v3 v4 v5 v6 v7 n m) (hd : dsV v2 v3 v4 v5 v6 v7) (hz : sI S (100 * t + 1) = nI z) (hzn : z < n) (hi : i < z) (hv : ∃ e, e < 2 ^ 20 ∧ sA S v2 (i + 1) = nI e) (hk : i + 1 < m → ∃ e, e < 2 ^ 20 ∧ sA S v3 (i + 1) = nI e) : ∃ W, tRef W r t v2 v3 v4 v5 v6 v7 n m ∧ remQ S W v2 v3 v4 v5 v6 v7 m i (i + 1) ∧ (∀ (lv : sm_L) (v : Option Value) (Sf : cS), (∀ lv1 : sm_L, sm_get lv1 0 = some (.ref t) → sm_get lv1 2 = some (.int (nI (i + 1))) → Bod (d + 10) 418 12 lv1 [] W v Sf) → sm_get lv 0 = some (.ref t) → sm_get lv 2 = some (.int (nI i)) → Bod (d + 10) 418 12 lv [] S v Sf) := by
  obtain ⟨d23, d45, d46, d47, d56, d57, d67⟩ := hd
  obtain ⟨e, he, hee⟩ := hv
  have hS := rset_T (d := d + 1) (kd := nI e) (xa := sL S v4 (i + 1)) (xb := sL S v5 (i + 1)) h (show i < n by omega)
  have hT := keyW_T2 (k := i) (kd := nI e) (xa := sL S v4 (i + 1)) (xb := sL S v5 (i + 1)) h
  have hA1 : ∀ a, sA (keyW i v2 v4 v5 (nI e) (sL S v4 (i + 1)) (sL S v5 (i + 1)) S) a = if a = v2 then va_up (sA S v2) i (nI e) else sA S a := fun a => keyW_A a
  have hL1 : ∀ a, sL (keyW i v2 v4 v5 (nI e) (sL S v4 (i + 1)) (sL S v5 (i + 1)) S) a = if a = v5 then vp_updL (sL S v5) i (sL S v5 (i + 1)) else if a = v4 then vp_updL (sL S v4) i (sL S v4 (i + 1)) else sL S a := fun a => keyW_L d45 a
  have hS' : Ans (d + 10) 358 [.ref t, .int (nI i), .int (nI e), .long (sL S v4 (i + 1)), .long (sL S v5 (i + 1))] S none (keyW i v2 v4 v5 (nI e) (sL S v4 (i + 1)) (sL S v5 (i + 1)) S) := hS
  have eI : sI (keyW i v2 v4 v5 (nI e) (sL S v4 (i + 1)) (sL S v5 (i + 1)) S) = sI S := rfl
  have eS : sS (keyW i v2 v4 v5 (nI e) (sL S v4 (i + 1)) (sL S v5 (i + 1)) S) = sS S := rfl
  have eQ : sQ (keyW i v2 v4 v5 (nI e) (sL S v4 (i + 1)) (sL S v5 (i + 1)) S) = sQ S := rfl
  have eV : sV (keyW i v2 v4 v5 (nI e) (sL S v4 (i + 1)) (sL S v5 (i + 1)) S) = sV S := rfl
  have eJ : sJ (keyW i v2 v4 v5 (nI e) (sL S v4 (i + 1)) (sL S v5 (i + 1)) S) = sJ S := rfl
  have eM : mu (keyW i v2 v4 v5 (nI e) (sL S v4 (i + 1)) (sL S v5 (i + 1)) S) = mu S := rfl
  generalize keyW i v2 v4 v5 (nI e) (sL S v4 (i + 1)) (sL S v5 (i + 1)) S = S1 at hT hA1 hL1 hS' eI eS eQ eV eJ eM
  clear hS
  have h0 := h
  obtain ⟨h1, h2, ⟨N, h3⟩, h4, h5, h6, h7, h8, h9, k1, k2, k3, k4, k5, k6, hn, hm, hr⟩ := h
  have h31 : (sS S1)[t - 108]? = some (13, N) := by rw [eS]; exact h3
  by_cases hc : i + 1 < m
  · obtain ⟨e1, he1, hee1⟩ := hk hc
    have hA3 : sA S1 v3 = sA S v3 := by rw [hA1, if_neg (fun c => d23 c.symm)]
    have hL6 : sL S1 v6 = sL S v6 := by rw [hL1, if_neg (fun c => d56 c.symm), if_neg (fun c => d46 c.symm)]
    have hL7 : sL S1 v7 = sL S v7 := by rw [hL1, if_neg (fun c => d57 c.symm), if_neg (fun c => d47 c.symm)]
    have hK := rkey_0 (d := d) (k := i) (kd := nI e1) (xa := sL S1 v6 (i + 1)) (xb := sL S1 v7 (i + 1)) hT (show i < m by omega) hT (rkroom_0 (d := d) hT (show i + 1 ≤ m by omega)) ⟨[], (List.append_nil _).symm⟩
    have hA2 : ∀ a, sA (keyW i v3 v6 v7 (nI e1) (sL S1 v6 (i + 1)) (sL S1 v7 (i + 1)) S1) a = if a = v3 then va_up (sA S1 v3) i (nI e1) else sA S1 a := fun a => keyW_A a
    have hL2 : ∀ a, sL (keyW i v3 v6 v7 (nI e1) (sL S1 v6 (i + 1)) (sL S1 v7 (i + 1)) S1) a = if a = v7 then vp_updL (sL S1 v7) i (sL S1 v7 (i + 1)) else if a = v6 then vp_updL (sL S1 v6) i (sL S1 v6 (i + 1)) else sL S1 a := fun a => keyW_L d67 a
    refine ⟨_, keyW_T hT, ⟨fun q => ?_, fun q => ?_, fun q => ?_, fun q => ?_, fun q => ?_, fun q => ?_, fun a a2 a3 => ?_, fun a a4 a5 a6 a7 => ?_, eI, eS, eQ, eV, eJ, eM⟩, fun lv v Sf hB q0 q2 => rReL_3 (d := d + 2) (zg := N) q0 q2 (by omega) h2 h3 hz (by omega) hi h4 k1 hn (by omega) hee he h6 k3 hn (by omega) h7 k4 hn (by omega) hS' h31 (by rw [eV]; exact h5) (isK_S eS k2) hm hc (by rw [hA3]; exact hee1) he1 (by rw [eV]; exact h8) (isK_S eS k5) hm hc (by rw [eV]; exact h9) (isK_S eS k6) hm hc hK hB⟩
    · rw [hA2, if_neg d23, hA1, if_pos rfl, upA8]
      by_cases c : q = i
      · rw [if_pos c, if_pos (by omega), c, hee]
      · rw [if_neg c, if_neg (by omega)]
    · rw [hL2, if_neg d47, if_neg d46, hL1, if_neg d45, if_pos rfl, upL8]
      by_cases c : q = i
      · rw [if_pos c, if_pos (by omega), c]
      · rw [if_neg c, if_neg (by omega)]
    · rw [hL2, if_neg d57, if_neg d56, hL1, if_pos rfl, upL8]
      by_cases c : q = i
      · rw [if_pos c, if_pos (by omega), c]
      · rw [if_neg c, if_neg (by omega)]
    · rw [hA2, if_pos rfl, upA8, hA3]
      by_cases c : q = i
      · rw [if_pos c, if_pos (by omega), c, hee1]
      · rw [if_neg c, if_neg (by omega)]
    · rw [hL2, if_neg d67, if_pos rfl, upL8, hL6]
      by_cases c : q = i
      · rw [if_pos c, if_pos (by omega), c]
      · rw [if_neg c, if_neg (by omega)]
    · rw [hL2, if_pos rfl, upL8, hL7]
      by_cases c : q = i
      · rw [if_pos c, if_pos (by omega), c]
      · rw [if_neg c, if_neg (by omega)]
    · rw [hA2, if_neg a3, hA1, if_neg a2]
    · rw [hL2, if_neg a7, if_neg a6, hL1, if_neg a5, if_neg a4]
  · refine ⟨S1, hT, ⟨fun q => ?_, fun q => ?_, fun q => ?_, fun q => ?_, fun q => ?_, fun q => ?_, fun a a2 a3 => ?_, fun a a4 a5 a6 a7 => ?_, eI, eS, eQ, eV, eJ, eM⟩, fun lv v Sf hB q0 q2 => rReL_2 (d := d + 2) (zg := N) q0 q2 (by omega) h2 h3 hz (by omega) hi h4 k1 hn (by omega) hee he h6 k3 hn (by omega) h7 k4 hn (by omega) hS' h31 (by rw [eV]; exact h5) (isK_S eS k2) hm (by omega) hB⟩
    · rw [hA1, if_pos rfl, upA8]
      by_cases c : q = i
      · rw [if_pos c, if_pos (by omega), c, hee]
      · rw [if_neg c, if_neg (by omega)]
    · rw [hL1, if_neg d45, if_pos rfl, upL8]
      by_cases c : q = i
      · rw [if_pos c, if_pos (by omega), c]
      · rw [if_neg c, if_neg (by omega)]
    · rw [hL1, if_pos rfl, upL8]
      by_cases c : q = i
      · rw [if_pos c, if_pos (by omega), c]
      · rw [if_neg c, if_neg (by omega)]
    · rw [hA1, if_neg (fun c => d23 c.symm), if_neg (by omega)]
    · rw [hL1, if_neg (fun c => d56 c.symm), if_neg (fun c => d46 c.symm), if_neg (by omega)]
    · rw [hL1, if_neg (fun c => d57 c.symm), if_neg (fun c => d47 c.symm), if_neg (by omega)]
    · rw [hA1, if_neg a2]
    · rw [hL1, if_neg a5, if_neg a4]
end
