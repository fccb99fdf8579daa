/-! COMPILING OF THE REFERENCE: a text (286), whole -/
/-- names are equal where their numbers are -/
theorem eqV_b {β : Nat → Nat} {n k1 g0 g1 g3 g4 g5 nn z : Nat} {bj : Nat → Nat} {V W : Nat → Int64} {S : cS} (hK : qK β n k1 = 1) (hT : ∀ j, j ≤ k1 → rTk β n S g0 g1 nn j) (hN : NMv bj S V W z nn g0 g1 g3 g4 g5) (hnn : nn ≤ 90000) : eqV (Eb β n) (qK β n) (sA S 68) := by
  have hlt : ∀ i, qK β n i = 3 → i ≤ k1 := fun i hi => by
    rcases Nat.lt_or_ge k1 i with h | h
    · have := zK_past hK (i - k1)
      rw [show k1 + (i - k1) = i by omega] at this
      omega
    · exact h
  intro i j hi hj
  obtain ⟨_, _, _, ti, _⟩ := hT i (hlt i hi)
  obtain ⟨_, _, _, tj, _⟩ := hT j (hlt j hj)
  obtain ⟨r, r1, r2, r3, r4⟩ := ti hi
  obtain ⟨s, s1, s2, s3, s4⟩ := tj hj
  rw [r2, s2, Eb_iff]
  constructor
  · intro h
    have : r = s := hN.2.1 r s r1 s1 (r3.trans (h.1.trans s3.symm)) (r4.trans (h.2.trans s4.symm))
    rw [this]
  · intro h
    have : r = s := nI_inj (by omega) (by omega) h
    subst this
    exact ⟨r3.symm.trans s3, r4.symm.trans s4⟩
theorem eqR_b (β : Nat → Nat) (n : Nat) : eqR (Eb β n) := ⟨fun _ _ => Eb_symm, fun _ _ _ => Eb_trans⟩
section
variable {β : Nat → Nat} {n : Nat} {E : Nat → Nat → Bool} {V : Nat → Int32} {T : Nat → Nat × Nat} {own own0 : Nat → Nat × Nat} {m u k1 : Nat} {S S0 S1 : cS} {H B0 W d : Nat}
theorem zE_H {c w t f b : Nat} (h : zE own0 m u S0 H B0 c w t f b S) : zE own0 m u S0 (H + 1) B0 c w t f b S := by
  obtain ⟨own, N, Nw, Nt, Nd, Nb, hs, hw, ht, hd, hb, hO, hc, hF, ho, hmu, hlen, hN, hcH⟩ := h
  exact ⟨own, N, Nw, Nt, Nd, Nb, hs, hw, ht, hd, hb, hO, hc, hF, ho, hmu, hlen, by omega, by omega⟩
/-- a text's fault; a text that is compiled -/
def zTb (own0 : Nat → Nat × Nat) (m u : Nat) (S0 : cS) (H B0 W : Nat) (S1 : cS) : Prop := ∃ c w t f b, zE own0 m u S0 (H + 1) B0 c w t f b S1 ∧ w ≤ W ∧ t ≤ W ∧ f ≤ W
def zTg (β : Nat → Nat) (n : Nat) (E : Nat → Nat → Bool) (V : Nat → Int32) (T : Nat → Nat × Nat) (own0 : Nat → Nat × Nat) (m u k1 : Nat) (S0 : cS) (H B0 : Nat) (x : PT) (Sf : cS) : Prop := ∃ S1, zG β n E V T own0 m u k1 S0 H B0 0 0 none sc0 [] (fun _ => 0) 0 S0 0 0 0 0 0 x S1 ∧ zO β n V (zPT (qK β n) (qI β n) V T) (agT T x.2.2.1.1) own0 m u S0 H B0 (fun _ => 0) 0 S0 0 0 0 0 0 x.1 (x.2.1 ++ [(0, [], 0, 0)]) (x.2.2.1.1.length - 1) Sf ∧ kX m S1 Sf ∧ qK β n x.1 = 1
/-- from place 84 on -/
theorem cmp_84 (hX : zX β n V own0 m k1 S0) (hE : eqV E (qK β n) V) (hEr : eqR E) (h : zIn β n E V T own0 m u k1 S0 H B0 W 0 (fun _ => 0) 0 0 0 none 0 sc0 [] (fun _ => 0) 0 0 0 0 0 0 S0) (hL : ∀ q, psT (qK β n) (qL β n) (qI β n) E = .inl q → q ≤ 3001) (hH : 13 * (n + 1) + 1 ≤ H) (hd : 308 ≤ d + 8) : ∃ Sf ft, (∀ lv : sm_L, sm_get lv 0 = some (.ref 61) → Bod (d + 8) 286 84 lv [] S0 (some (.int (nI ft))) Sf) ∧ ((∃ q, psT (qK β n) (qL β n) (qI β n) E = .inl q ∧ ft = flq q ∧ zTb own0 m u S0 H B0 W Sf) ∨ ∃ x, psT (qK β n) (qL β n) (qI β n) E = .inr (x.1, x.2.1 ++ [(0, [], 0, 0)], x.2.2.1, []) ∧ ft = 0 ∧ zTg β n E V T own0 m u k1 S0 H B0 x Sf) := by
  have hr := rem_n β n 0
  have hn := hX.1
  have hlb : ∀ q, ps (qK β n) (qL β n) (qI β n) E 60000 1 0 0 0 none 0 0 0 sc0 [] 0 = .inl q → psT (qK β n) (qL β n) (qI β n) E = .inl q := fun q hq => by
    have hq2 : ps (qK β n) (qL β n) (qI β n) E 60000 1 0 0 0 none 0 0 0 ([(0, 0, 0, 0)], []) [] 0 = .inl q := hq
    unfold psT
    rw [hq2]
    rfl
  obtain ⟨S1, hB, hO⟩ := Z_top hX hE hEr 60000 (fun _ => 0) sc0 [] (fun _ => 0) 0 0 0 0 0 0 0 S0 d h (by omega) (fun q hq => hL q (hlb q hq)) hd
  have hH4 : H ≤ 40000 := h.1.2.2.2.2.2.2.2.2.2.2.2.1
  rcases hO with ⟨q, hq, ⟨c, w, t, f, b, z1, z2, z3, z4⟩, z5, j, j1, j2⟩ | ⟨x, hx, hG⟩
  · obtain ⟨own, hEx, hback⟩ := zE_rE (zE_H z1)
    have hcH : c ≤ H := by
      obtain ⟨own, N, Nw, Nt, Nd, Nb, _, _, _, _, _, _, _, _, _, _, _, _, q⟩ := z1
      exact q
    obtain ⟨S2, hA, r1, r2, r3, r4⟩ := rE_1 (d := d + 4) hEx (by omega) (zE_86 hX z1) (nI 41)
    obtain ⟨y1, y2⟩ := hback S2 _ _ _ r1 (by omega)
    have hm := hX.2.2.2.2.1
    have hqb := flq_b (hL q (hlb q hq))
    exact ⟨S2, flq q, fun lv q0 => hB lv _ _ q0 (fun lv1 a0 => zCr_1 a0 hA ((r4 _ (by omega)).trans z5) (by omega)), Or.inl ⟨q, hlb q hq, rfl, _, _, _, _, _, y1, z2, z3, z4⟩⟩
  · obtain ⟨g1, g2, g3, g4, g5, g6, g7, g8, g9, g10, g11, g12, g13, g14, g15, g16⟩ := id hG
    obtain ⟨S2, hA, p1, p2⟩ := zO_1 (o := (0, [], 0, 0)) (x := nI 41) (d := d + 4) hX g1 (by omega) hH4 rfl (by decide) (by decide) (by decide) rfl
    refine ⟨S2, 0, fun lv q0 => hB lv _ _ q0 (fun lv1 a0 => zCr_1 a0 hA p1.2.2.1 (by omega)), Or.inr ⟨x, ?_, rfl, S1, hG, p1, p2, ps_end 60000 _ _ _ _ _ _ _ hx⟩⟩
    have hx2 : ps (qK β n) (qL β n) (qI β n) E 60000 1 0 0 0 none 0 0 0 ([(0, 0, 0, 0)], []) [] 0 = .inr x := hx
    unfold psT
    rw [hx2]
    rfl
/-- from place 17 on, behind a new code -/
theorem cmp_17 {g0 g1 nn : Nat} (hn : n ≤ 3000) (hK : qK β n k1 = 1) (hj : ∀ j, j < k1 → qK β n j ≠ 1) (hO : OW own S) (h86 : ∀ p t, p < 1500 → sQ S 86 p = some t → 108 ≤ t ∧ t < 108 + (sS S).length) (hnn : nn ≤ 90000) (hg0 : g0 < 108 + (sS S).length) (o0 : (own g0).1 = 20) (hg1 : g1 < 108 + (sS S).length) (o1 : (own g1).1 = 21) (hT : ∀ j, j ≤ k1 → rTk β n S g0 g1 nn j) (hb : bkR own B0 S) (hE : eqV E (qK β n) (sA S 68)) (hEr : eqR E) (hL : ∀ q, psT (qK β n) (qL β n) (qI β n) E = .inl q → q ≤ 3001) (hH : 13 * (n + 1) + 1 ≤ H ∧ H ≤ 40000) (hW : n + 1 ≤ W ∧ W ≤ 40000) (hd : 308 ≤ d + 8) : zX β n (sA S 68) (own9 own (108 + (sS S).length)) (108 + (sS S).length) k1 (tc0 S) ∧ ∃ Sf ft, (∀ lv : sm_L, sm_get lv 0 = some (.ref 61) → Bod (d + 8) 286 17 lv [] (wV 6114 (.ref (108 + (sS S).length)) (nwC S)) (some (.int (nI ft))) Sf) ∧ ((∃ q, psT (qK β n) (qL β n) (qI β n) E = .inl q ∧ ft = flq q ∧ zTb (own9 own (108 + (sS S).length)) (108 + (sS S).length) 0 (tc0 S) H B0 W Sf) ∨ ∃ x, psT (qK β n) (qL β n) (qI β n) E = .inr (x.1, x.2.1 ++ [(0, [], 0, 0)], x.2.2.1, []) ∧ ft = 0 ∧ zTg β n E (sA S 68) T (own9 own (108 + (sS S).length)) (108 + (sS S).length) 0 k1 (tc0 S) H B0 x Sf) := by
  have hX := tc0_X hn hK hj hO h86 hnn hg0 o0 hg1 o1 hT
  have hi : ∀ i, i ∈ [6140, 6139, 6137, 6134, 6130, 6127, 6126, 6123, 6122, 6117, 6116, 6115] → sI (tc0 S) i = nI 0 := fun i hi => (tc0_i S i (by
    simp only [List.mem_cons, List.not_mem_nil, or_false] at hi
    omega)).trans (if_pos hi)
  have hz := tc0_in (E := E) (T := T) (W := W) hX rfl (tc0_E (H := H) hO h86 hb) hi (tc0_q S).2.2.2 ⟨by omega, hH.2⟩ hW
  obtain ⟨Sf, ft, hB, hR⟩ := cmp_84 (d := d) hX hE hEr hz hL hH.1 hd
  refine ⟨hX, Sf, ft, fun lv q0 => zCp_1 q0 (fun lv1 a0 => ?_), hR⟩
  have := hB lv1 a0
  unfold tc0 tcW at this
  exact this
end
