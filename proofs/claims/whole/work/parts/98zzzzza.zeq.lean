/-! STATEMENTS OF THE REFERENCE: = ; words put again -/
section
variable {β : Nat → Nat} {n : Nat} {E : Nat → Nat → Bool} {V : Nat → Int32} {T : Nat → Nat × Nat} {P : Nat → Int32 → Int32 × Int32} {own0 : Nat → Nat × Nat} {m u k1 : Nat} {S0 S S1 S2 : cS} {H B0 W d l c w t f f1 b j s : Nat} {X Y : Nat → Nat} {o1 o2 : List Op} {A A1 : Prop}
theorem zE_wF {a : Nat} {g : Nat → Int32} (h : zE own0 m u S0 H B0 c w t f b S) (ha : a ∈ zAl) : zE own0 m u S0 H B0 c w t f b (wF a g S) := by
  obtain ⟨own, N, Nw, Nt, Nd, Nb, hs, hw, ht, hd, hb, hO, hc, hF, ho, hmu, hlen, hN, hcH⟩ := h
  obtain ⟨m1, m2, s1, s2, s3, s4, g, s5, s6, s7⟩ := hs
  obtain ⟨_, _, w1, w2, w3, w4, gw, w5, w6, w7⟩ := hw
  obtain ⟨_, _, t1, t2, t3, t4, gf, gs, t5, t6, t7, t8, t9, t10⟩ := ht
  obtain ⟨_, _, d1, d2, d3, d4, g7, g8, g9, g10, ⟨a7, b7, c7⟩, ⟨a8, b8, c8⟩, ⟨a9, b9, c9⟩, ⟨a10, b10, c10⟩⟩ := hd
  obtain ⟨k1, k2, k3, k4, gb, gl, ⟨ab, bb, cb⟩, ⟨al, bl, cl⟩⟩ := hb
  exact ⟨own, N, Nw, Nt, Nd, Nb, ⟨m1, m2, s1, s2, s3, s4, g, s5, isK_S rfl s6, s7⟩, ⟨m1, m2, w1, w2, w3, w4, gw, w5, isK_S rfl w6, w7⟩, ⟨m1, m2, t1, t2, t3, t4, gf, gs, t5, t6, isK_S rfl t7, isK_S rfl t8, t9, t10⟩, ⟨m1, m2, d1, d2, d3, d4, g7, g8, g9, g10, ⟨a7, isK_S rfl b7, c7⟩, ⟨a8, isK_S rfl b8, c8⟩, ⟨a9, isK_S rfl b9, c9⟩, ⟨a10, isK_S rfl b10, c10⟩⟩, ⟨k1, k2, k3, k4, gb, gl, ⟨ab, isK_S rfl bb, cb⟩, ⟨al, isK_S rfl bl, cl⟩⟩, hO, hc, FrZ_go hF ⟨rfl, rfl, fun _ _ => rfl, fun _ _ => rfl, ⟨[], (List.append_nil _).symm⟩, fun a' _ _ hn => if_neg (fun e => hn (by rw [e]; exact ha)), fun _ _ _ => rfl⟩ ho, ho, hmu, hlen, hN, hcH⟩
theorem kW_wF {a : Nat} {y : Nat → Int32} (h : zE own0 m u S0 H B0 c w t f b S) (ha : a ∈ zAl) (c' w' t' f' b' : Nat) : kW m c' w' t' f' b' S (wF a y S) := by
  have hb : 67 ≤ a ∧ a < 108 ∧ a ≠ 79 ∧ a ≠ 80 := by
    unfold zAl at ha
    simp only [List.mem_cons, List.not_mem_nil, or_false] at ha
    omega
  have rF : ∀ {b : Nat}, b ≠ a → sA (wF a y S) b = sA S b := fun hb => if_neg hb
  obtain ⟨n0, n7, n8, n9, n10, nb, nl⟩ := zE_ne h hb.1 hb.2.1 hb.2.2.1 hb.2.2.2
  refine ⟨⟨fun q _ => ?_, fun _ _ => rfl, fun _ _ => ⟨rfl, rfl⟩⟩, fun q _ => ⟨?_, ?_, ?_, ?_⟩, fun q _ => ⟨?_, ?_⟩⟩
  · obtain ⟨g, N, g1, g2, _⟩ := zE_g h
    rw [vR_eq g1] at n0
    rw [cw_eq (g := g) (show sV (wF a y S) (100 * m + 0) = _ from g1), cw_eq g1, rF n0]
  · exact congrFun (rF n7) q
  · exact congrFun (rF n8) q
  · exact congrFun (rF n9) q
  · exact congrFun (rF n10) q
  · exact congrFun (rF nb) q
  · exact congrFun (rF nl) q
theorem z_words {e lq lg : Nat} {lnm : Int32} (hX : zX β n V own0 m k1 S0) (hc : c + lq ≤ H) (hH : H ≤ 40000) (hlq : lq ≤ 15000) (hlg : lg < 2 ^ 20) : ∀ (r li : Nat) (S : cS), li + r = lq → zE own0 m u S0 H B0 (c + li) w t f b S → ∃ S2, (∀ {v : Option Value} {Sf : cS}, (∀ lv1 : sm_L, sm_get lv1 0 = some (.ref 61) → sm_get lv1 2 = some (.int (nI lg)) → sm_get lv1 3 = some (.int lnm) → Bod (e + 9) 305 167 lv1 [] S2 v Sf) → ∀ lv : sm_L, sm_get lv 0 = some (.ref 61) → sm_get lv 2 = some (.int (nI lg)) → sm_get lv 3 = some (.int lnm) → sm_get lv 5 = some (.int (nI lq)) → sm_get lv 6 = some (.int (nI li)) → Bod (e + 9) 305 143 lv [] S v Sf) ∧ zE own0 m u S0 H B0 (c + lq) w t f b S2 ∧ kX m S S2 ∧ kR m (c + li) w t S S2 ∧ (∀ i, li ≤ i → i < lq → cw S2 m (c + i) = sA S 85 i) ∧ sI S2 6115 = sI S 6115 ∧ sI S2 6116 = sI S 6116 := by
  have hm := hX.2.2.2.2.1
  intro r
  induction r with
  | zero =>
    intro li S hr hE
    have e0 : li = lq := by omega
    subst e0
    exact ⟨S, fun {v Sf} hB lv q0 q2 q3 q5 q6 => zAk_1 (d := e + 1) q0 q2 q3 q5 q6 hlg (by omega) (by omega) (Nat.le_refl _) (fun lv1 a0 a2 a3 => hB lv1 a0 a2 a3), hE, kX_refl m S, kR_refl _ _ _ _ _, fun i i1 i2 => by omega, rfl, rfl⟩
  | succ r ih =>
    intro li S hr hE
    obtain ⟨own, hE', hback⟩ := zE_rE hE
    obtain ⟨S1, hA, r1, r2, r3, r4⟩ := rE_1 (d := e + 5) hE' (by omega) (zE_86 hX hE) (sA S 85 li)
    obtain ⟨z1, z2⟩ := hback S1 _ _ _ r1 (by omega)
    obtain ⟨S2, hB2, z3, kx3, kr3, cw3, i5, i6⟩ := ih (li + 1) S1 (by omega) z1
    have e85 : sA S1 85 = sA S 85 := (z2.2.1 85 (by omega) (by omega) (by omega) (by omega)).1
    refine ⟨S2, fun {v Sf} hB lv q0 q2 q3 q5 q6 => zAk_2 (d := e + 1) q0 q2 q3 q5 q6 hlg (by omega) (by omega) (by omega) (by omega) hA (fun lv1 a0 a2 a3 a5 a6 => hB2 hB lv1 a0 a2 a3 a5 a6), z3, kX_trans z2 kx3, kR_trans r2 kr3 (by omega) (Nat.le_refl _) (Nat.le_refl _), fun i i1 i2 => ?_, i5.trans (r4 _ (by omega)), i6.trans (r4 _ (by omega))⟩
    rcases Nat.eq_or_lt_of_le i1 with e1 | e1
    · rw [← e1]
      exact (kr3.1 _ (by omega)).trans r3
    · rw [cw3 i e1 i2, e85]
end
