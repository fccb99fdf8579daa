/-! DEEDS ON BOTH SIDES: entries and keys -/
section
variable {P : Nat → Prop} {T : cS} {gT : Nat} {Q : Nat → Prop} {β : Nat → Nat} {F : Nat → Nat → Nat → Prop} {loc par : Nat → Nat → Nat} {ty : Nat → Nat × Nat} {G : Nat → Nat → Nat → Nat × Nat × LL → Prop} {D K : List Nat} {z nn g0 g1 g3 g4 g5 gn d d' v o t tp i : Nat} {tq : Nat → Nat × Nat} {C r : List Lv} {x : Lv} {s' : Nat × Nat × LL} {Sc Sr S S' W : cS} {hi lo kh kl a b w : Int64} {kd : Int32}
theorem least {p : Nat → Prop} : ∀ {n : Nat}, (∃ j, j < n ∧ p j) → ∃ e, e < n ∧ p e ∧ ∀ j, j < e → ¬ p j := by
  intro n
  induction n with
  | zero => rintro ⟨j, h, _⟩; omega
  | succ n ih =>
    intro h
    by_cases c : ∃ j, j < n ∧ p j
    · obtain ⟨e, e1, e2, e3⟩ := ih c
      exact ⟨e, by omega, e2, e3⟩
    · obtain ⟨j, j1, j2⟩ := h
      have : j = n := by
        rcases Nat.lt_or_ge j n with c2 | c2
        · exact absurd ⟨j, c2, j2⟩ c
        · omega
      subst this
      exact ⟨j, j1, j2, fun i hi hp => c ⟨i, hi, hp⟩⟩
/-- an object's row -/
theorem row_o (hok : h_ok S o) (hn : 0 < h_n S o) : ∃ kd z a N, kd ≤ 7 ∧ z ≤ 300 ∧ sA S 3 o = nI kd ∧ sA S 10 o = nI z ∧ h_kd S o = kd ∧ h_n S o = z ∧ (c_width kd = 2 ∨ c_width kd = 4) ∧ sQ S 11 o = some a ∧ h_row S o = a ∧ 108 ≤ a ∧ (sS S)[a - 108]? = some (1, N) ∧ N ≤ 600 ∧ c_width kd * z ≤ N := by
  obtain ⟨kd, z, x, y, h7, h3, h10, _, _, _, _, hz, hw, hq, hr⟩ := hok
  have hm := c_most_le kd
  have ek : h_kd S o = kd := by unfold h_kd; rw [h3, gN_nI (by omega)]
  have ez : h_z S o = z := by unfold h_z; rw [h10, gN_nI (by omega)]
  unfold h_n at hn ⊢
  rw [ek] at hn ⊢
  split at hn
  · omega
  rename_i hw0
  rw [if_neg hw0, ez]
  rw [ez] at hn
  cases h11 : sQ S 11 o with
  | none => have := hq h11; omega
  | some a =>
    obtain ⟨N, q1, q2, q3, q4, _⟩ := hr a h11
    exact ⟨kd, z, a, N, h7, by omega, h3, h10, rfl, rfl, (c_width_or kd).resolve_left hw0, rfl, by unfold h_row; rw [h11]; rfl, q1, q2, q4, q3⟩
theorem ent_C (hl : lv S o) (hok : h_ok S o) (hi : i < h_n S o) : Ans (d + 3) 156 [.ref 2, .int (nI o), .int (nI i)] S (some (.long (h_hi S o i))) S ∧ Ans (d + 3) 158 [.ref 2, .int (nI o), .int (nI i)] S (some (.long (h_lo S o i))) S := by
  obtain ⟨kd, z, a, N, h7, z3, h3, h10, ek, en, hw, h11, er, ha, hs, hN, hl4⟩ := row_o hok (by omega)
  rw [en] at hi
  unfold h_hi h_lo
  rw [er, ek]
  rcases hw with hw | hw
  · rw [hw] at hl4
    rw [hw, h_at2]
    exact ⟨hiOf_2 hl.1 hl.2.1 h3 h7 h10 h11 ha hs (by omega) hw hi (by omega) (by omega), loOf_2 hl.1 hl.2.1 h3 h7 h10 h11 ha hs (by omega) hw hi (by omega) (by omega)⟩
  · rw [hw] at hl4
    rw [hw, h_at4]
    exact ⟨hiOf_4 hl.1 hl.2.1 h3 h7 h10 h11 ha hs (by omega) hw hi (by omega) (by omega), loOf_4 hl.1 hl.2.1 h3 h7 h10 h11 ha hs (by omega) hw hi (by omega) (by omega)⟩
/-- the class finds a key -/
theorem find_C (hl : lv S o) (hok : h_ok S o) (hw : c_width (h_kd S o) = 4) : (∀ e, e < h_n S o → (h_kh S o e = kh ∧ h_kl S o e = kl) → (∀ j, j < e → ¬ (h_kh S o j = kh ∧ h_kl S o j = kl)) → Ans (d + 2) 206 [.ref 2, .int (nI o), .long kh, .long kl] S (some (.int (nI e))) S) ∧ ((∀ j, j < h_n S o → ¬ (h_kh S o j = kh ∧ h_kl S o j = kl)) → Ans (d + 2) 206 [.ref 2, .int (nI o), .long kh, .long kl] S (some (.int (Int32.ofInt (-1)))) S) := by
  by_cases hn : 0 < h_n S o
  · obtain ⟨kd, z, a, N, h7, z3, h3, h10, ek, en, _, h11, er, ha, hs, hN, hl4⟩ := row_o hok hn
    rw [ek] at hw
    rw [hw] at hl4
    unfold h_kh h_kl
    rw [en, er]
    exact ⟨fun e he hm hno => find_hit hl.1 hl.2.1 h3 h7 h10 h11 ha hs (by omega) hw hl4 (by omega) he hm hno, fun hno => find_miss hl.1 hl.2.1 h3 h7 h10 h11 ha hs (by omega) hw hl4 (by omega) hno⟩
  · refine ⟨fun e he => by omega, fun _ => ?_⟩
    obtain ⟨kd, z, x, y, h7, h3, h10, _, _, _, _, hz, hw', hq, hr⟩ := hok
    have ek : h_kd S o = kd := by unfold h_kd; rw [h3, gN_nI (by omega)]
    have hm := c_most_le kd
    have ez : h_z S o = z := by unfold h_z; rw [h10, gN_nI (by omega)]
    rw [ek] at hw
    have e0 : z = 0 := by
      unfold h_n at hn
      rw [ek, if_neg (by omega), ez] at hn
      omega
    subst e0
    cases h11 : sQ S 11 o with
    | none => exact find_none hl.1 hl.2.1 h11
    | some a =>
      obtain ⟨N, q1, q2, q3, q4, _⟩ := hr a h11
      exact find_miss hl.1 hl.2.1 h3 h7 h10 h11 q1 q2 (by omega) hw (by omega) (by omega) (fun j hj => by omega)
/-- a key of a dict: the same in both -/
theorem key_iff {e : Nat} {ka kb : Int64} {kk : Int32} (hk : keyR β Sr g0 g1 nn 2 kh kl kk ka kb) (hv : vrel β hi lo kd a b) (he : kd = nI e) (h12 : e = 1 ∨ e = 2) : (kh = hi ∧ kl = lo) ↔ (kk = kd ∧ ka = a ∧ kb = if e = 1 then 0 else b) := by
  unfold keyR at hk
  rw [if_pos rfl] at hk
  obtain ⟨h1, h2, h3⟩ := hk
  have hk0 : ∀ {hi lo a b : Int64} {k : Int32}, vrel β hi lo k a b → (k = nI 1 ∨ k = nI 2) → c_kind hi ≠ 0 ∧ ob hi lo = 0 := fun {hi lo a b k} h hk => by
    constructor
    · intro c
      have := (vrel_kind h).1.mp c
      rcases hk with e | e
      · rw [e] at this; exact absurd this (by decide)
      · rw [e] at this; exact absurd this (by decide)
    · obtain ⟨o, o1, o2, o3⟩ := vrel_ob h
      rw [ob_n o2 o1]
      rcases o3 with ⟨h0, _⟩ | ⟨_, h3, _⟩
      · exact h0
      · rcases hk with e | e
        · rw [e] at h3; exact absurd h3 (by decide)
        · rw [e] at h3; exact absurd h3 (by decide)
  have hd : kd = nI 1 ∨ kd = nI 2 := h12.imp (fun c => by rw [he, c]) (fun c => by rw [he, c])
  obtain ⟨p1, p2⟩ := hk0 h1 h3
  obtain ⟨q1, q2⟩ := hk0 hv hd
  rw [vr_eq h1 hv p1 q1 (fun c => absurd p2 c) (fun c => absurd q2 c) (fun c => absurd p2 c)]
  rcases h12 with e1 | e2
  · rw [if_pos e1]
    have e' : kd = nI 1 := by rw [he, e1]
    rw [e']
    exact ⟨fun c => ⟨c.1, (c.2.resolve_left (by decide)).1, h2 c.1⟩, fun c => ⟨c.1, Or.inr ⟨c.2.1, fun c2 => absurd c2 (by decide)⟩⟩⟩
  · rw [if_neg (by omega)]
    have e' : kd = nI 2 := by rw [he, e2]
    rw [e']
    exact ⟨fun c => ⟨c.1, (c.2.resolve_left (by decide)).1, (c.2.resolve_left (by decide)).2 rfl⟩, fun c => ⟨c.1, Or.inr ⟨c.2.1, fun _ => c.2.2⟩⟩⟩
end
