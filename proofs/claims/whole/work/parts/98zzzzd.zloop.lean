/-! STATEMENTS OF THE REFERENCE: words told anew, a jump back, a loop's begin and its end -/
section
variable {own0 : Nat → Nat × Nat} {d m u k w t : Nat} {S0 S : cS}
/-- word j of the code is told anew -/
theorem rE_set {j g : Nat} {x : Int32} (h : rE own0 m u S0 k w t S) (hg : sV S (100 * m + 0) = .ref g) : rE own0 m u S0 k w t (wA g j x S) ∧ kR m 0 w t S (wA g j x S) ∧ (∀ i, i ≠ j → cw (wA g j x S) m i = cw S m i) ∧ cw (wA g j x S) m j = x := by
  obtain ⟨own, N, Nw, Nt, hs, hw, ht, hO, hc, hF, ho, hmu, hlen⟩ := h
  obtain ⟨m1, m2, s1, s2, s3, s4, g', s5, s6, s7⟩ := hs
  obtain rfl : g = g' := by
    have e := hg.symm.trans s5
    injection e
  obtain ⟨_, _, w1, w2, w3, w4, gw, w5, w6, w7⟩ := hw
  obtain ⟨_, _, t1, t2, t3, t4, gf, gs, t5, t6, t7, t8, t9, t10⟩ := ht
  have eA : sA (wA g j x S) g = upd (sA S g) j x := if_pos rfl
  have hFw : FrO own [26] [] [] [] S (wA g j x S) := ⟨rfl, rfl, fun _ _ => rfl, fun _ _ => rfl, ⟨[], (List.append_nil _).symm⟩, fun a _ h2 => rAn _ _ _ (fun e => h2 (by rw [e, s7]; decide)), fun _ _ _ => rfl⟩
  refine ⟨⟨own, N, Nw, Nt, ⟨m1, m2, s1, s2, s3, s4, g, s5, isK_S rfl s6, s7⟩, ⟨m1, m2, w1, w2, w3, w4, gw, w5, isK_S rfl w6, w7⟩, ⟨m1, m2, t1, t2, t3, t4, gf, gs, t5, t6, isK_S rfl t7, isK_S rfl t8, t9, t10⟩, hO, hc, FrO_go hF hFw ho (fun x hx => hx) (fun x hx => by cases hx) (fun x hx => by cases hx) (fun x hx => by cases hx), ho, hmu, hlen⟩, ⟨fun i hi => absurd hi (Nat.not_lt_zero i), fun _ _ => rfl, fun _ _ => ⟨rfl, rfl⟩⟩, fun i hi => ?_, ?_⟩
  · rw [cw_eq (g := g) (show sV (wA g j x S) (100 * m + 0) = _ from s5), cw_eq s5, eA, upd_at, if_neg hi]
  · rw [cw_eq (g := g) (show sV (wA g j x S) (100 * m + 0) = _ from s5), eA, upd_at, if_pos rfl]
end
section
variable {β : Nat → Nat} {n : Nat} {E : Nat → Nat → Bool} {V : Nat → Int32} {T : Nat → Nat × Nat} {P : Nat → Int32 → Int32 × Int32} {own0 : Nat → Nat × Nat} {m u k1 : Nat} {S0 S S1 S2 : cS} {H B0 W d l c w t f f1 b j s : Nat} {X Y : Nat → Nat} {o1 o2 : List Op} {A : Prop}
theorem zE_g (h : zE own0 m u S0 H B0 c w t f b S) : ∃ g N, sV S (100 * m + 0) = .ref g ∧ isK S g 0 N ∧ c ≤ N ∧ N < 2 ^ 20 ∧ c ≤ H := by
  obtain ⟨own, N, Nw, Nt, Nd, Nb, hs, hw, ht, hd, hb, hO, hc, hF, ho, hmu, hlen, hN, hcH⟩ := h
  obtain ⟨m1, m2, s1, s2, s3, s4, g, s5, s6, s7⟩ := hs
  exact ⟨g, N, s5, s6, s2, by omega, hcH⟩
theorem zE_bg (h : zE own0 m u S0 H B0 c w t f b S) : ∃ gb gl N, sV S 6128 = .ref gb ∧ sV S 6129 = .ref gl ∧ isK S gb 0 N ∧ isK S gl 0 N ∧ gl ≠ gb ∧ b ≤ N ∧ N < 2 ^ 20 := by
  obtain ⟨own, N, Nw, Nt, Nd, Nb, hs, hw, ht, hd, hb, hO, hc, hF, ho, hmu, hlen, hN, hcH⟩ := h
  obtain ⟨k1, k2, k3, k4, gb, gl, ⟨ab, bb, cb⟩, ⟨al, bl, cl⟩⟩ := hb
  exact ⟨gb, gl, Nb, ab, al, bb, bl, (fun e => by rw [e, cb] at cl; cases cl), k2, by omega⟩
/-- a jump to a place that is known -/
theorem zO_jump {z : Nat} (hX : zX β n V own0 m k1 S0) (h : zO β n V P A own0 m u S0 H B0 X l S c w t f b j o1 f1 S1) (hc : c + wR (qK β n) o1 + 2 ≤ H) (hH : H ≤ 40000) (hz : z ≤ 2 ^ 16) (y : Int) : ∃ S2, Ans (d + 9) 329 [.ref 61, .int (nI 11), .int (nI z)] S1 none S2 ∧ zO β n V P A own0 m u S0 H B0 X l S c w t f b j (o1 ++ [(4, [], y, (z : Int) - (c + wR (qK β n) o1 + 1 : Nat))]) f1 S2 ∧ (∀ i, i ≠ 100 * m + 1 → sI S2 i = sI S1 i) ∧ kX m S1 S2 := by
  obtain ⟨own, hE, hback⟩ := zE_rE h.1
  obtain ⟨Sp, hA, r1, r2, r3, r4, r5⟩ := rE_2 (d := d + 4) hE (by omega) (zE_86 hX h.1) (nI 11) (nI 0)
  obtain ⟨z1, z2⟩ := hback Sp _ _ _ r1 hc
  obtain ⟨m1, m2, m3, m4, m5, m6⟩ := zE_m z1
  obtain ⟨g, N, g1, g2, g3, g4, g5⟩ := zE_g z1
  have hm := hX.2.2.2.2.1
  have hA2 : Ans (d + 9) 329 [.ref 61, .int (nI 11), .int (nI z)] S1 none _ := Ans.of (by rw [ml_329]; exact Nat.le_of_ble_eq_true rfl) (zJt_1 (d := d) (lz := nI z) (lx := nI 11) hA m1 m3 m2 g1 g2 g4 m4 (by omega) (by omega) (by omega))
  obtain ⟨own', hE', hback'⟩ := zE_rE z1
  obtain ⟨q1, q2, q3, q4⟩ := rE_set (j := c + wR (qK β n) o1 + 2 - 1) (x := nI z - nI (c + wR (qK β n) o1 + 2 - 1)) hE' g1
  obtain ⟨y1, y2⟩ := hback' _ _ _ _ q1 g5
  have l2 : lR (qK β n) (4, [], y, (z : Int) - (c + wR (qK β n) o1 + 1 : Nat)) = 2 := rfl
  refine ⟨_, hA2, zO_put h (by rw [l2]; exact y1) (kX_trans z2 y2) (kR_trans r2 ⟨fun i hi => q3 i (by omega), q2.2.1, q2.2.2⟩ (Nat.le_refl _) (Nat.le_refl _) (Nat.le_refl _)) ⟨r5 _ (by omega), r5 _ (by omega)⟩ (show (4 : Nat) ≠ 16 by decide) (show (4 : Nat) ≠ 60 by decide) (fun e => by cases e) (fun _ => ?_), fun i hi => r5 i hi, kX_trans z2 y2⟩
  have e : wdS V P (4, [], y, (z : Int) - (c + wR (qK β n) o1 + 1 : Nat)) = [nI 11, jI ((z : Int) - (c + wR (qK β n) o1 + 1 : Nat))] := rfl
  rw [e]
  refine two_w ((q3 _ (by omega)).trans r3) ?_
  have e2 : c + wR (qK β n) o1 + 1 = c + wR (qK β n) o1 + 2 - 1 := by omega
  rw [e2, q4]
  show Int32.ofInt z - Int32.ofInt (c + wR (qK β n) o1 + 2 - 1 : Nat) = Int32.ofInt (z - (c + wR (qK β n) o1 + 2 - 1 : Nat))
  rw [Int32.ofInt_sub]
/-- a loop begins -/
theorem z_begin {L tr : Nat} {x : Int32} (hL : sI S 6126 = nI L) (htr : sI S 6127 = nI tr) (hLM : L < 30) (htM : tr < 14) : Ans (d + 9) 343 [.ref 61, .int x] S none (wI 6126 (nI (L + 1)) (wA 78 L (nI tr) (wA 77 L x S))) :=
  Ans.of (by rw [ml_343]; exact Nat.le_of_ble_eq_true rfl) (zBg_1 hL hLM htr htM)
/-- the parser's words of breaks -/
theorem zE_wB {a i : Nat} {x : Int32} (h : zE own0 m u S0 H B0 c w t f b S) (ha : a = vR S 6128 ∨ a = vR S 6129) : zE own0 m u S0 H B0 c w t f b (wA a i x S) := by
  obtain ⟨own, N, Nw, Nt, Nd, Nb, hs, hw, ht, hd, hb, hO, hc, hF, ho, hmu, hlen, hN, hcH⟩ := h
  obtain ⟨m1, m2, s1, s2, s3, s4, g, s5, s6, s7⟩ := hs
  obtain ⟨_, _, w1, w2, w3, w4, gw, w5, w6, w7⟩ := hw
  obtain ⟨_, _, t1, t2, t3, t4, gf, gs, t5, t6, t7, t8, t9, t10⟩ := ht
  obtain ⟨_, _, d1, d2, d3, d4, g7, g8, g9, g10, ⟨a7, b7, c7⟩, ⟨a8, b8, c8⟩, ⟨a9, b9, c9⟩, ⟨a10, b10, c10⟩⟩ := hd
  obtain ⟨k1, k2, k3, k4, gb, gl, ⟨ab, bb, cb⟩, ⟨al, bl, cl⟩⟩ := hb
  rw [vR_eq ab, vR_eq al] at ha
  have hl : (own a).1 = 34 ∨ (own a).1 = 35 := by
    rcases ha with rfl | rfl
    · exact Or.inl cb
    · exact Or.inr cl
  exact ⟨own, N, Nw, Nt, Nd, Nb, ⟨m1, m2, s1, s2, s3, s4, g, s5, isK_S rfl s6, s7⟩, ⟨m1, m2, w1, w2, w3, w4, gw, w5, isK_S rfl w6, w7⟩, ⟨m1, m2, t1, t2, t3, t4, gf, gs, t5, t6, isK_S rfl t7, isK_S rfl t8, t9, t10⟩, ⟨m1, m2, d1, d2, d3, d4, g7, g8, g9, g10, ⟨a7, isK_S rfl b7, c7⟩, ⟨a8, isK_S rfl b8, c8⟩, ⟨a9, isK_S rfl b9, c9⟩, ⟨a10, isK_S rfl b10, c10⟩⟩, ⟨k1, k2, k3, k4, gb, gl, ⟨ab, isK_S rfl bb, cb⟩, ⟨al, isK_S rfl bl, cl⟩⟩, hO, hc, FrZ_go hF ⟨rfl, rfl, fun _ _ => rfl, fun _ _ => rfl, ⟨[], (List.append_nil _).symm⟩, fun a' _ hn _ => rAn _ _ _ (fun e => hn (by
    rw [e]
    unfold zOl
    rcases hl with e | e <;> rw [e] <;> decide)), fun _ _ _ => rfl⟩ ho, ho, hmu, hlen, hN, hcH⟩
/-- how many breaks wait is told anew -/
theorem zE_wb {b' : Nat} (h : zE own0 m u S0 H B0 c w t f b S) (hb' : b' ≤ b) : zE own0 m u S0 H B0 c w t f b' (wI 6130 (nI b') S) := by
  obtain ⟨own, N, Nw, Nt, Nd, Nb, hs, hw, ht, hd, hb, hO, hc, hF, ho, hmu, hlen, hN, hcH⟩ := h
  obtain ⟨m1, m2, s1, s2, s3, s4, g, s5, s6, s7⟩ := hs
  obtain ⟨_, _, w1, w2, w3, w4, gw, w5, w6, w7⟩ := hw
  obtain ⟨_, _, t1, t2, t3, t4, gf, gs, t5, t6, t7, t8, t9, t10⟩ := ht
  obtain ⟨_, _, d1, d2, d3, d4, g7, g8, g9, g10, ⟨a7, b7, c7⟩, ⟨a8, b8, c8⟩, ⟨a9, b9, c9⟩, ⟨a10, b10, c10⟩⟩ := hd
  obtain ⟨k1, k2, k3, k4, gb, gl, ⟨ab, bb, cb⟩, ⟨al, bl, cl⟩⟩ := hb
  exact ⟨own, N, Nw, Nt, Nd, Nb, ⟨m1, m2, (rIn _ _ (by omega)).trans s1, s2, s3, s4, g, s5, isK_S rfl s6, s7⟩, ⟨m1, m2, (rIn _ _ (by omega)).trans w1, w2, w3, w4, gw, w5, isK_S rfl w6, w7⟩, ⟨m1, m2, (rIn _ _ (by omega)).trans t1, t2, t3, t4, gf, gs, t5, t6, isK_S rfl t7, isK_S rfl t8, t9, t10⟩, ⟨m1, m2, (rIn _ _ (by omega)).trans d1, d2, d3, d4, g7, g8, g9, g10, ⟨a7, isK_S rfl b7, c7⟩, ⟨a8, isK_S rfl b8, c8⟩, ⟨a9, isK_S rfl b9, c9⟩, ⟨a10, isK_S rfl b10, c10⟩⟩, ⟨rIe _ _ _, by omega, k3, k4, gb, gl, ⟨ab, isK_S rfl bb, cb⟩, ⟨al, isK_S rfl bl, cl⟩⟩, hO, hc, FrZ_go hF ⟨rfl, rfl, fun j hj => rIn _ _ (fun e => hj (by
    rw [e]
    unfold zIl
    simp only [List.mem_cons, true_or, or_true])), fun _ _ => rfl, ⟨[], (List.append_nil _).symm⟩, fun _ _ _ _ => rfl, fun _ _ _ => rfl⟩ ho, ho, hmu, hlen, hN, hcH⟩
theorem wA_same {a i : Nat} {x : Int32} {S : cS} (h : sA S a i = x) : wA a i x S = S := by
  have e : (fun b => if b = a then upd (sA S a) i x else sA S b) = sA S := by
    funext b
    by_cases hb : b = a
    · rw [if_pos hb, hb]
      funext k
      rw [upd_at]
      by_cases hk : k = i
      · rw [if_pos hk, hk, h]
      · rw [if_neg hk]
    · rw [if_neg hb]
  show (S.1, S.2.1, (fun b => if b = a then upd (sA S a) i x else sA S b), S.2.2.2) = S
  rw [e]
  rfl
/-- the breaks of this loop are told -/
theorem end_2 {L b0 : Nat} (hX : zX β n V own0 m k1 S0) (hLM : L < 30) (hb0 : b0 < 2 ^ 20) (hH : H ≤ 40000) : ∀ (ps : List Nat) (i : Nat) (S : cS), b0 ≤ i → i + ps.length < 3000 → zE own0 m u S0 H B0 c w t f (i + ps.length) S → sI S 6126 = nI L → (∀ q p, ps[q]? = some p → bkA S (i + q) = nI p ∧ bkL S (i + q) = nI L ∧ p < c) → ps.Nodup → ∃ S2, (∀ lv, sm_get lv 0 = some (.ref 61) → sm_get lv 1 = some (.int (nI b0)) → sm_get lv 2 = some (.int (nI i)) → Bod (d + 8) 344 14 lv [] S none S2) ∧ zE own0 m u S0 H B0 c w t f b0 S2 ∧ (∀ i, i ≠ 6130 → i < 10800 → sI S2 i = sI S i) ∧ kR m 0 w t S S2 ∧ (∀ q, q ∉ ps → cw S2 m q = cw S m q) ∧ (∀ p, p ∈ ps → cw S2 m p = nI (c - p)) ∧ (∀ a, 67 ≤ a → a < 108 → a ≠ 79 → a ≠ 80 → sA S2 a = sA S a) ∧ dNm S2 m = dNm S m ∧ dAt S2 m = dAt S m ∧ dPa S2 m = dPa S m ∧ dLo S2 m = dLo S m ∧ bkA S2 = bkA S ∧ bkL S2 = bkL S := by
  intro ps
  induction ps with
  | nil =>
    intro i S hbi hM h hL hps _
    obtain ⟨gb, gl, N, e1, e2, e3, e4, e5, e6, e7⟩ := zE_bg h
    obtain ⟨_, _, _, _, _, hnb⟩ := zE_m h
    have hm := hX.2.2.2.2.1
    exact ⟨wI 6130 (nI b0) S, fun lv q0 q1 q2 => zElL_1 q0 q1 q2 (by omega) (by have : i + ([] : List Nat).length = i := rfl; omega) hnb hM (Nat.le_refl _), zE_wb h (by show b0 ≤ i; exact hbi), fun j hj _ => rIn _ _ hj, ⟨fun q hq => absurd hq (Nat.not_lt_zero q), fun _ _ => rfl, fun _ _ => ⟨rfl, rfl⟩⟩, fun _ _ => rfl, (fun p hp => by cases hp), fun _ _ _ _ _ => rfl, rfl, rfl, rfl, rfl, rfl, rfl⟩
  | cons p r ih =>
    intro i S hbi hM h hL hps hnd
    obtain ⟨gb, gl, N, e1, e2, e3, e4, e5, e6, e7⟩ := zE_bg h
    obtain ⟨_, _, _, _, _, hnb⟩ := zE_m h
    obtain ⟨p1, p2, p3⟩ := hps 0 p rfl
    obtain ⟨g, N', g1, g2, g3, g4, g5⟩ := zE_g h
    have hlen : (p :: r).length = r.length + 1 := rfl
    obtain ⟨own, hE, hback⟩ := zE_rE h
    obtain ⟨S1, hA, r1, r2, r3, r4, r5⟩ := rE_fill (d := d + 7) (j := p) hE (by omega) p3
    obtain ⟨z1, z2⟩ := hback S1 _ _ _ r1 g5
    obtain ⟨hnp, hnr⟩ := List.nodup_cons.mp hnd
    have eA : bkA S1 = bkA S := z2.2.2.2.2.2.2.1
    have eL : bkL S1 = bkL S := z2.2.2.2.2.2.2.2.1
    obtain ⟨S2, hB, y1, y2, y3, y4, y5, y6, y7, y8, y9, y10, y11, y12⟩ := ih (i + 1) S1 (by omega) (by omega) (by rw [show i + 1 + r.length = i + (p :: r).length by omega]; exact z1) ((r5 _).trans hL) (fun q p' hq => by
      rw [eA, eL, show i + 1 + q = i + (q + 1) by omega]
      exact hps (q + 1) p' hq) hnr
    refine ⟨S2, fun lv q0 q1 q2 => zElL_3 q0 q1 q2 (by omega) (by omega) hnb hM (by omega) e2 e4 e7 (by omega) (show sA S gl i = nI L from by have := p2; unfold bkL at this; rw [vR_eq e2] at this; exact this) (by omega) hL hLM rfl e1 e3 e7 e5 (by omega) (show sA S gb i = nI p from by have := p1; unfold bkA at this; rw [vR_eq e1] at this; exact this) (by omega) hA (fun lv1 a0 a1 a2 => hB lv1 a0 a1 a2), y1, fun j hj hj2 => (y2 j hj hj2).trans (r5 j), kR_trans r2 y3 (Nat.le_refl _) (Nat.le_refl _) (Nat.le_refl _), fun q hq => ?_, fun q hq => ?_, fun a h1 h2 h3 h4 => (y6 a h1 h2 h3 h4).trans (z2.2.1 a h1 h2 h3 h4).1, y7.trans z2.2.2.1, y8.trans z2.2.2.2.1, y9.trans z2.2.2.2.2.1, y10.trans z2.2.2.2.2.2.1, y11.trans eA, y12.trans eL⟩
    · rw [y4 q (fun e => hq (List.mem_cons_of_mem _ e)), r3 q (fun e => hq (by rw [e]; exact List.mem_cons_self ..))]
    · rcases List.mem_cons.mp hq with e | e
      · rw [e, y4 p hnp, r4]
      · exact y5 q e
theorem end_1 {L b0 : Nat} {ps : List Nat} (hX : zX β n V own0 m k1 S0) (hLM : L < 30) (hb0 : b0 + ps.length < 3000) (hH : H ≤ 40000) (h : zE own0 m u S0 H B0 c w t f (b0 + ps.length) S) (hL : sI S 6126 = nI L) (hlo : ∀ i, i < b0 → ∃ x y, x < L ∧ y < 2 ^ 17 ∧ bkL S i = nI x ∧ bkA S i = nI y) {S2 : cS} (h2 : ∀ lv, sm_get lv 0 = some (.ref 61) → sm_get lv 1 = some (.int (nI b0)) → sm_get lv 2 = some (.int (nI b0)) → Bod (d + 8) 344 14 lv [] S none S2) : ∀ (r i : Nat), i + r = b0 → ∀ lv, sm_get lv 0 = some (.ref 61) → sm_get lv 1 = some (.int (nI i)) → sm_get lv 2 = some (.int (nI i)) → Bod (d + 8) 344 14 lv [] S none S2 := by
  intro r
  induction r with
  | zero =>
    intro i hi lv q0 q1 q2
    obtain rfl : i = b0 := by omega
    exact h2 lv q0 q1 q2
  | succ r ih =>
    intro i hi lv q0 q1 q2
    obtain ⟨gb, gl, N, e1, e2, e3, e4, e5, e6, e7⟩ := zE_bg h
    obtain ⟨_, _, _, _, _, hnb⟩ := zE_m h
    obtain ⟨x, y, x1, x2, x3, x4⟩ := hlo i (by omega)
    have a1 : sA S gl i = nI x := by have := x3; unfold bkL at this; rw [vR_eq e2] at this; exact this
    have a2 : sA S gb i = nI y := by have := x4; unfold bkA at this; rw [vR_eq e1] at this; exact this
    refine zElL_2 q0 q1 q2 (by omega) (by omega) hnb hb0 (by omega) e2 e4 e7 (by omega) a1 (by omega) hL hLM (by omega) e1 e3 e7 e5 (by omega) a2 (by omega) (by omega) (by omega) (fun lv1 b0' b1 b2 => ?_)
    rw [wA_same a2, wA_same a1]
    exact ih (i + 1) (by omega) lv1 b0' b1 b2
/-- a loop ends -/
theorem z_end {L b0 : Nat} {ps : List Nat} (hX : zX β n V own0 m k1 S0) (hLM : L + 1 < 30) (hb0 : b0 + ps.length < 3000) (hH : H ≤ 40000) (h : zE own0 m u S0 H B0 c w t f (b0 + ps.length) S) (hL : sI S 6126 = nI (L + 1)) (hlo : ∀ i, i < b0 → ∃ x y, x < L ∧ y < 2 ^ 17 ∧ bkL S i = nI x ∧ bkA S i = nI y) (hps : ∀ q p, ps[q]? = some p → bkA S (b0 + q) = nI p ∧ bkL S (b0 + q) = nI L ∧ p < c) (hnd : ps.Nodup) : ∃ S2, Ans (d + 9) 344 [.ref 61] S none S2 ∧ zE own0 m u S0 H B0 c w t f b0 S2 ∧ sI S2 6126 = nI L ∧ (∀ i, i ≠ 6126 → i ≠ 6130 → i < 10800 → sI S2 i = sI S i) ∧ kR m 0 w t S S2 ∧ (∀ q, q ∉ ps → cw S2 m q = cw S m q) ∧ (∀ p, p ∈ ps → cw S2 m p = nI (c - p)) ∧ (∀ a, 67 ≤ a → a < 108 → a ≠ 79 → a ≠ 80 → sA S2 a = sA S a) ∧ dNm S2 m = dNm S m ∧ dAt S2 m = dAt S m ∧ dPa S2 m = dPa S m ∧ dLo S2 m = dLo S m ∧ bkA S2 = bkA S ∧ bkL S2 = bkL S := by
  have hw : zE own0 m u S0 H B0 c w t f (b0 + ps.length) (wI 6126 (nI L) S) := zE_wI h (by decide)
  obtain ⟨S2, hB, y1, y2, y3⟩ := end_2 (d := d) hX (by omega) (by omega) hH ps b0 (wI 6126 (nI L) S) (Nat.le_refl _) hb0 hw (rIe _ _ _) hps hnd
  have h1 := end_1 (d := d) (S := wI 6126 (nI L) S) hX (by omega) hb0 hH hw (rIe _ _ _) hlo hB
  refine ⟨S2, Ans.of (by rw [ml_344]; exact Nat.le_of_ble_eq_true rfl) (zEl_1 hL hLM (by omega) (fun lv1 a0 a1 a2 => ?_)), y1, (y2 6126 (by decide) (by decide)).trans (rIe _ _ _), fun i h1 h2 h3 => (y2 i h2 h3).trans (rIn _ _ h1), y3⟩
  exact h1 b0 0 (by omega) lv1 a0 a1 a2
end
