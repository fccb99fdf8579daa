/-! THE START lies between calls -/
def own0 (a : Nat) : Nat × Nat := if a = 62 then (20, 0) else if a = 63 then (21, 0) else if a = 64 then (23, 0) else if a = 65 then (24, 0) else if a = 66 then (25, 0) else (0, 0)
theorem s0_words : ∀ q, q < 24 → s0_17 q = e_H (tx_c (w_tx.getD q 0)) (tx_n (w_tx.getD q 0)) ∧ s0_18 q = e_L (tx_c (w_tx.getD q 0)) (tx_n (w_tx.getD q 0)) := by decide +kernel
theorem s0_A {a : Nat} (h : a ≠ 19 ∧ a ≠ 20 ∧ a ≠ 105) (i : Nat) : sA sb_S0 a i = 0 := by
  show (if a = 19 then s0_19 else if a = 20 then s0_20 else if a = 105 then s0_105 else fun _ => 0) i = 0
  rw [if_neg h.1, if_neg h.2.1, if_neg h.2.2]
theorem s0_L {a : Nat} (h : a ≠ 17 ∧ a ≠ 18) (i : Nat) : sL sb_S0 a i = 0 := by
  show (if a = 17 then s0_17 else if a = 18 then s0_18 else fun _ => 0) i = 0
  rw [if_neg h.1, if_neg h.2]
theorem s0_I {i : Nat} (h : i ≠ 1607) : sI sb_S0 i = 0 := if_neg h
theorem s0_lv (k : Nat) : ¬ lv sb_S0 k := fun h => h.2.2 (s0_A (by decide) k)
theorem s0_E {t : Nat} (h : 1 ≤ t) : nmE sb_S0 t = 0 := sumN_z (fun q _ => by
  show (if ob (sL sb_S0 21 q) (sL sb_S0 22 q) = t then 1 else 0) = 0
  rw [s0_L (by decide), s0_L (by decide), if_neg]
  have : ob 0 0 = 0 := by decide
  omega)
theorem s0_held (t : Nat) : heldBy sb_S0 t = 0 := sumN_z (fun j _ => by
  show (if sA sb_S0 3 j = 0 then 0 else (tgs sb_S0 j).count t) = 0
  rw [if_pos (s0_A (by decide) j)])
theorem s0_live : nLive sb_S0 = 0 := sumN_z (fun j _ => by
  show (if sA sb_S0 3 j = 0 then 0 else 1) = 0
  rw [if_pos (s0_A (by decide) j)])
theorem s0_kind {q : Nat} (h : 1 ≤ q) (h7 : q ≤ 7) : nKind sb_S0 q = 0 := sumN_z (fun j _ => by
  show (if sA sb_S0 3 j = nI q then 1 else 0) = 0
  rw [s0_A (by decide), if_neg]
  intro e
  have := congrArg gN e
  rw [show (0 : Int32) = nI 0 from rfl, gN_nI (by omega), gN_nI (by omega)] at this
  omega)
theorem s0_B : nmB sb_S0 = 0 := sumN_z (fun q _ => by
  show (if c_kind (sL sb_S0 21 q) = 0 then 0 else 1) = 0
  rw [s0_L (by decide), if_pos (by decide)])
theorem s0_bw : bw own0 (fun _ => 0) [] 35 0 62 63 64 65 66 64 sb_S0 := by
  refine ⟨s0_NT, by omega, ?_, ⟨rfl, rfl, rfl, rfl, rfl, rfl, Or.inl ⟨by decide, rfl⟩, Or.inl ⟨by decide, rfl⟩, Or.inl ⟨by decide, rfl⟩, Or.inl ⟨by decide, rfl⟩, Or.inl ⟨by decide, rfl⟩, by omega, by omega, rfl, rfl, rfl, rfl, rfl⟩, fun i => by rw [s0_A (by decide)]; decide, ?_, ?_, ?_, ?_, ?_, ?_, ?_, rfl, rfl, ?_, ?_⟩
  · intro q t ht
    obtain ⟨hq, _⟩ := w_tx_at ht
    obtain ⟨h1, h2⟩ := s0_words q hq
    have e : w_tx.getD q 0 = t := by rw [List.getD_eq_getElem?_getD, ht]; rfl
    rw [e] at h1 h2
    exact ⟨h1, h2⟩
  · exact ⟨fun r hr => by omega, fun r s hr => by omega, fun r q hr => by omega, fun r hr => by omega, fun q hq _ => ⟨s0_L (by decide) q, s0_L (by decide) q⟩, fun q _ _ => ⟨s0_L (by decide) q, s0_L (by decide) q⟩⟩
  · refine ⟨fun a ha => ?_, fun a h1 h2 _ _ => ?_, fun k a _ h => ?_, fun p t _ h => ?_⟩
    · unfold own0
      rw [if_neg (by omega), if_neg (by omega), if_neg (by omega), if_neg (by omega), if_neg (by omega)]
    · unfold own0
      rw [if_neg (by omega), if_neg (by omega), if_neg (by omega), if_neg (by omega), if_neg (by omega)]
    · cases h
    · cases h
  · exact ⟨fun k hk => absurd hk (s0_lv k), fun j k hj => absurd hj (s0_lv j), fun p _ hp => absurd (s0_A (by decide) p) hp, fun k hk => absurd hk (s0_lv k), List.nodup_nil, fun x hx => (by cases hx), List.Pairwise.nil, fun x hx => (by cases hx), fun k _ hp => absurd (s0_A (by decide) k) hp⟩
  · refine ⟨fun k _ _ => ⟨0, 0, 0, 0, by omega, s0_A (by decide) k, s0_A (by decide) k, s0_A (by decide) k, s0_A (by decide) k, by omega, by omega, Nat.zero_le _, fun _ => rfl, fun _ => rfl, (fun a h => by cases h)⟩, ⟨0, 0, by rw [s0_live]; rfl, rfl, rfl, by rw [s0_live], by omega, fun i hi => by omega, fun i j _ hj => by omega, fun k _ _ => s0_A (by decide) k, s0_A (by decide) 0⟩, fun kd h1 h7 => ?_, fun j _ _ hl => absurd (s0_A (by decide) j) hl, (fun j k a _ _ h => by cases h), fun t h1 h2 => ?_⟩
    · rw [s0_kind h1 h7, s0_A (by decide)]; rfl
    · rw [s0_held, s0_E h1, s0_A (by decide), s0_A (by decide), s0_A (by decide)]
      exact ⟨rfl, rfl, rfl, (by decide : 0 < 2 ^ 20), by decide, (by decide : 0 < 2 ^ 20)⟩
  · exact fun t _ _ hl => absurd (s0_A (by decide) t) hl
  · rw [s0_B]; rfl
  · intro q _
    refine ⟨0, by omega, ?_, Or.inl rfl⟩
    rw [s0_L (by decide), s0_L (by decide)]
    decide
  · intro j _ hl
    exact absurd (s0_A (by decide) j) hl
  · intro p t _ h
    cases h
