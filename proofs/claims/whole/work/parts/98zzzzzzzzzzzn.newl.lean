/-! BOTH MACHINES: a new object with links -/
section
variable {P : Nat → Prop} {T : cS} {gT : Nat} {Q : Nat → Prop} {β β' : Nat → Nat} {F : Nat → Nat → Nat → Prop} {loc par : Nat → Nat → Nat} {ty : Nat → Nat × Nat} {G : Nat → Nat → Nat → Nat × Nat × LL → Prop} {D D' K : List Nat} {z nn g0 g1 g3 g4 g5 gn d d' dr v o i k k0 c e n nt m t tp tt r0 ob_ vb q rr y u kd s : Nat} {tq : Nat → Nat × Nat} {C r : List Lv} {x : Lv} {S S' S1 X W Sc Sr : cS} {f g : Nat → Nat} {hi lo kh kl a b ka kb : Int64}
/-- a register of a thing is set -/
theorem tF_I {j : Nat} {q : Int32} (hT : tF r0 s S W) (ok : tOk W r0 s) (hj : j ≤ 12) : tF r0 s S (wI (100 * s + j) q W) ∧ tOk (wI (100 * s + j) q W) r0 s := by
  obtain ⟨v2, v3, v4, v5, v6, v7, n, m, c1, c2, c3, c4⟩ := ok
  have ok' : tOk (wI (100 * s + j) q W) r0 s := ⟨v2, v3, v4, v5, v6, v7, n, m, c1, c2, c3, c4⟩
  obtain ⟨a1, a2, a3, a4, a5, a6, a7, a8, a9, a10⟩ := hT
  have e1 := tc_ref c1
  have e2 := tc_ref (S := wI (100 * s + j) q W) (r := r0) (t := s) (v2 := v2) (v3 := v3) (v4 := v4) (v5 := v5) (v6 := v6) (v7 := v7) (n := n) (m := m) c1
  refine ⟨⟨a1, a2, a3, fun i hi => ⟨?_, (a4 i hi).2⟩, a5, a6, a7, a8, ?_, ?_⟩, ok'⟩
  · rw [rI, if_neg (hi j hj)]
    exact (a4 i hi).1
  · rw [e2.1]
    rw [e1.1] at a9
    exact a9
  · rw [e2.2]
    rw [e1.2] at a10
    exact a10
theorem lkI_R (hy : y = 0 ∨ (1 ≤ y ∧ y ≤ 1500)) (hb : y ≠ 0 → β' y = β y) : lkR β' (nI y) (lkI β y) := by
  rcases hy with e | e
  · subst e
    exact Or.inl ⟨rfl, if_pos rfl⟩
  · have h0 : y ≠ 0 := by omega
    refine Or.inr ⟨y, e.1, e.2, rfl, ?_⟩
    rw [hb h0]
    exact if_neg h0
theorem new_L {i : Int32} (hkd : 3 ≤ kd ∧ kd ≤ 6) (h : CI F loc par ty G tq (x :: r) S) (hy : y = 0 ∨ lv S y) (hu : u = 0 ∨ lv S u) : (nLive S = 1500 ∧ Ans (d + 2) 178 [.ref 2, .int (nI kd)] S (some (.int (nI 0))) S) ∨ (nLive S < 1500 ∧ ∃ k X W, Ans (d + 2) 178 [.ref 2, .int (nI kd)] S (some (.int (nI k))) X ∧ Ans (d + 2) 179 [.ref 2, .int (nI k), .int i, .int (nI y), .int (nI u)] X none W ∧ CFm S X ∧ nbX k (gC (x :: r)) (topC (x :: r)) S W ∧ (sA W 3 k = nI kd ∧ sA W 7 k = nI y ∧ sA W 8 k = nI u ∧ sA W 9 k = i ∧ sA W 10 k = nI 0) ∧ (∀ ty' : Nat → Nat × Nat, (∀ j, j ≠ k → ty' j = ty j) → tyO F loc par ty' W k → CIk k F loc par ty' G tq (x :: r) W) ∧ ∀ (P : Nat → Prop) (T : cS) (gT : Nat) (Q : Nat → Prop) (β : Nat → Nat) (D : List Nat) (z nn g0 g1 g3 g4 g5 gn : Nat) (Sr : cS), XR P T gT Q β F D z nn g0 g1 g3 g4 g5 gn tq (x :: r) S Sr → ∃ β' D' r0 s S1, β' k = r0 ∧ r0 < 1500 ∧ (∀ j, j ≠ k → β' j = β j) ∧ Ans (dr + 10) 364 [.ref 61, .int (nI kd)] Sr (some (.int (nI r0))) (rsT r0 s (nI kd) S1) ∧ (sQ S1 86 r0 = some s ∧ sA S1 87 r0 = 0) ∧ 108 ≤ s ∧ (∃ N, (sS S1)[s - 108]? = some (13, N)) ∧ (∀ p s', sQ Sr 86 p = some s' → sQ S1 86 p = some s') ∧ (∃ l, sS S1 = sS Sr ++ l) ∧ XR P T gT Q β F D' z nn g0 g1 g3 g4 g5 gn tq (x :: r) S S1 ∧ (tF r0 s S1 (rsT r0 s (nI kd) S1) ∧ tOk (rsT r0 s (nI kd) S1) r0 s) ∧ (sI (rsT r0 s (nI kd) S1) (100 * s + 0) = nI kd ∧ sI (rsT r0 s (nI kd) S1) (100 * s + 1) = nI 0 ∧ sI (rsT r0 s (nI kd) S1) (100 * s + 11) = Int32.ofInt (-1) ∧ sI (rsT r0 s (nI kd) S1) (100 * s + 12) = Int32.ofInt (-1) ∧ sA (rsT r0 s (nI kd) S1) 87 r0 = nI 1 ∧ (∀ a, a ≠ 87 → sA (rsT r0 s (nI kd) S1) a = sA S1 a) ∧ sL (rsT r0 s (nI kd) S1) = sL S1 ∧ (∀ j, j < 10800 → sI (rsT r0 s (nI kd) S1) j = sI S1 j)) ∧ ∀ W2, tF r0 s S1 W2 → tOk W2 r0 s → sA W2 87 r0 = nI 1 → sI W2 (100 * s + 0) = nI kd → sI W2 (100 * s + 1) = nI 0 → sI W2 (100 * s + 11) = lkI β y → sI W2 (100 * s + 12) = lkI β u → inR F W W2 g0 g1 nn k s → XR P T gT Q β' F D' z nn g0 g1 g3 g4 g5 gn tq (x :: r) W W2) := by
  rcases nb_create (d := d) (kd := kd) h.1 h.2.1 (by omega) (by omega) with ⟨a, b⟩ | ⟨a, k, X, b1, b2, b3, b7, b8, b9, b10⟩
  · exact Or.inl ⟨a, b⟩
  · obtain ⟨W, c1, c2, c3, c7, c8, c9, c10⟩ := nb_link (d := d) (i := i) b2 b7 b8 hy hu
    have hk := nbX_lk c2
    have ek3 : sA W 3 k = nI kd := by rw [c3]; exact b3
    have ek10 : sA W 10 k = nI 0 := by rw [c10]; exact b10
    have ekd : h_kd W k = kd := kd_of ek3 (by omega)
    have en : h_n W k = 0 := by
      unfold h_n h_z
      rw [ek10, gN_nI (by omega)]
      split <;> rfl
    have hnk := c2.2.2.2.1
    refine Or.inr ⟨a, k, X, W, b1, c1, b2.2.2.1, c2, ⟨ek3, c7, c8, c9, ek10⟩, fun ty' ht ho => CIk_of h c2 ht ⟨ho, fun i hi => by omega, fun _ i hi => by omega⟩, fun P T gT Q β D z nn g0 g1 g3 g4 g5 gn Sr hX => ?_⟩
    obtain ⟨r0, s, S1, D', r1, r2, r3, r4, r5, r6, r7⟩ := (new_R (d := dr) (kd := nI kd) h hX).2 a
    obtain ⟨u1, u2, u3, u4, u5, u6, u7, u8, u9, u10, u11, u12, u13⟩ := rsT_f (kd := nI kd) r1 r3 r4
    obtain ⟨t108, _, N, tS⟩ := tOk_t r4
    obtain ⟨β', eb, eo⟩ : ∃ β' : Nat → Nat, β' k = r0 ∧ ∀ j, j ≠ k → β' j = β j := ⟨fun j => if j = k then r0 else β j, if_pos rfl, fun j hj => if_neg hj⟩
    have hyk : ∀ w, (w = 0 ∨ lv S w) → (w = 0 ∨ (1 ≤ w ∧ w ≤ 1500)) ∧ (w ≠ 0 → β' w = β w) := fun w hw => ⟨hw.imp id (fun c => ⟨c.1, c.2.1⟩), fun h0 => eo w (fun c => hnk (c ▸ hw.resolve_left h0))⟩
    refine ⟨β', D', r0, s, S1, eb, r1, eo, r6, ⟨r3, r2⟩, t108, ⟨N, tS⟩, r7.1, r7.2, r5, ⟨u1, u2⟩, ⟨u3, u4, u5, u6, u7, u11, u12, u13⟩, fun W2 w1 w2 w3 w4 w5 w6 w7 w8 => ?_⟩
    exact XR_nb h r5 c2 r1 r2 r3 w1 w2 w3 eb eo (obR_0 (t := s) (by rw [w4, ek3]) w5 en (by rw [eb]; exact w2) (by rw [eb]; exact r1) (by rw [eb]; exact w3) (by rw [c7, w6]; exact lkI_R (hyk y hy).1 (hyk y hy).2) (by rw [c8, w7]; exact lkI_R (hyk u hu).1 (hyk u hu).2) w8)
end
