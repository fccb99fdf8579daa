/-! STATEMENTS OF THE REFERENCE: a text's tokens; steps put, names, expressions, jumps -/
/-- a text that is lexed: k1 is its end -/
def zX (β : Nat → Nat) (n : Nat) (V : Nat → Int32) (own0 : Nat → Nat × Nat) (m k1 : Nat) (S0 : cS) : Prop := n ≤ 3000 ∧ k1 < 6001 ∧ qK β n k1 = 1 ∧ (∀ j, j < k1 → qK β n j ≠ 1) ∧ 108 ≤ m ∧ (∀ p t, p < 1500 → sQ S0 86 p = some t → t ≠ m) ∧ (∀ j, V j = sA S0 68 j) ∧ OW own0 S0 ∧ ∃ g0 g1 nn, nn ≤ 90000 ∧ g0 < 108 + (sS S0).length ∧ (own0 g0).1 = 20 ∧ g1 < 108 + (sS S0).length ∧ (own0 g1).1 = 21 ∧ ∀ j, j ≤ k1 → rTk β n S0 g0 g1 nn j
/-- where names are -/
def zN (P : Nat → Int32 → Int32 × Int32) (A : Prop) (s : Nat) (S : cS) : Prop := ∃ F a en oa o, scR S F a en oa o ∧ (A → ∀ x, P s x = nplc S F a en oa o x)
section
variable {β : Nat → Nat} {n : Nat} {V : Nat → Int32} {P : Nat → Int32 → Int32 × Int32} {own0 : Nat → Nat × Nat} {m u k1 : Nat} {S0 S S1 S2 : cS} {H B0 W d l c w t f f1 b j s : Nat} {X : Nat → Nat} {o1 o2 : List Op} {A : Prop}
theorem zE_tk (hX : zX β n V own0 m k1 S0) (h : zE own0 m u S0 H B0 c w t f b S) {a : Nat} (h1 : 67 ≤ a) (h2 : a ≤ 72) : sA S a = sA S0 a ∧ sL S a = sL S0 a := by
  obtain ⟨own, N, Nw, Nt, Nd, Nb, hs, hw, ht, hd, hb, hO, hc, hF, ho, hmu, hlen, hN, hcH⟩ := h
  have e : (own0 a).1 = 0 := hX.2.2.2.2.2.2.2.1.2.1 a h1 (by omega) (by omega) (by omega)
  refine ⟨hF.2.2.2.2.2.1 a (by omega) (by rw [e]; decide) (fun hm => ?_), hF.2.2.2.2.2.2 a (by omega) (by rw [e]; decide)⟩
  unfold zAl at hm
  simp only [List.mem_cons, List.not_mem_nil, or_false] at hm
  omega
theorem zE_86 (hX : zX β n V own0 m k1 S0) (h : zE own0 m u S0 H B0 c w t f b S) : ∀ p t, p < 1500 → sQ S 86 p = some t → t ≠ m := by
  rw [zE_Q h]
  exact hX.2.2.2.2.2.1
theorem zX_T (hX : zX β n V own0 m k1 S0) (h : zE own0 m u S0 H B0 c w t f b S) : ∃ g0 g1 nn, nn ≤ 90000 ∧ ∀ j, j ≤ k1 → rTk β n S g0 g1 nn j := by
  obtain ⟨g0, g1, nn, h1, h2, h3, h4, h5, h6⟩ := hX.2.2.2.2.2.2.2.2
  have e67 := (zE_tk hX h (a := 67) (by omega) (by omega)).1
  have e68 := (zE_tk hX h (a := 68) (by omega) (by omega)).1
  have e69 := (zE_tk hX h (a := 69) (by omega) (by omega)).1
  have e70 := (zE_tk hX h (a := 70) (by omega) (by omega)).1
  have l71 := (zE_tk hX h (a := 71) (by omega) (by omega)).2
  have l72 := (zE_tk hX h (a := 72) (by omega) (by omega)).2
  obtain ⟨own, N, Nw, Nt, Nd, Nb, hs, hw, ht, hd, hb, hO, hc, hF, ho, hmu, hlen, hN, hcH⟩ := h
  have k0 : ∀ a, 67 ≤ a → a ≤ 108 → ∀ p, (own0 p).1 ≠ 0 → p ≠ 0 := fun _ _ _ p hp e => hp (by rw [e]; exact hX.2.2.2.2.2.2.2.1.1 0 (by decide))
  have nz : ∀ g p, (own0 g).1 = p → p ≠ 0 → g ∉ zAl := fun g p e1 e2 hm => by
    have h0 : (own0 g).1 = 0 := by
      unfold zAl at hm
      simp only [List.mem_cons, List.not_mem_nil, or_false] at hm
      exact hX.2.2.2.2.2.2.2.1.2.1 g (by omega) (by omega) (by omega) (by omega)
    omega
  have eg0 : sA S g0 = sA S0 g0 := hF.2.2.2.2.2.1 g0 h2 (by rw [h3]; decide) (nz g0 20 h3 (by decide))
  have eg1 : sA S g1 = sA S0 g1 := hF.2.2.2.2.2.1 g1 h4 (by rw [h5]; decide) (nz g1 21 h5 (by decide))
  have hrn : ∀ r, rnH S g0 g1 r = rnH S0 g0 g1 r ∧ rnL S g0 g1 r = rnL S0 g0 g1 r := fun r => by
    unfold rnH rnL rnm
    rw [eg0, eg1]
    exact ⟨rfl, rfl⟩
  refine ⟨g0, g1, nn, h1, fun j hj => ?_⟩
  obtain ⟨t1, t2, t3, t4, t5, t6, t7, t8, t9, t10⟩ := h6 j hj
  unfold rTk
  rw [e67, e68, e69, e70, l71, l72]
  refine ⟨t1, t2, t3, fun e => ?_, t5, t6, t7, t8, t9, t10⟩
  obtain ⟨r, r1, r2, r3, r4⟩ := t4 e
  exact ⟨r, r1, r2, by rw [(hrn r).1]; exact r3, by rw [(hrn r).2]; exact r4⟩
theorem zX_cX (hX : zX β n V own0 m k1 S0) (h : zE own0 m u S0 H B0 c w t f b S) (P' : Int32 → Int32 × Int32) (hN : ∃ F a en oa o, scR S F a en oa o ∧ ∀ x, P' x = nplc S F a en oa o x) (hH : H ≤ 40000) (hW : W ≤ 40000) : cX β n V P' m S k1 H W := ⟨hX.1, hX.2.1, hX.2.2.1, hX.2.2.2.1, hX.2.2.2.2.1, hH, hW, zE_86 hX h, zX_T hX h, fun j => by rw [(zE_tk hX h (a := 68) (by omega) (by omega)).1]; exact hX.2.2.2.2.2.2.1 j, hN⟩
theorem zN_X (hN : zN P A s S) (hx : kX m S S1) : zN P A s S1 := by
  obtain ⟨F, a, en, oa, o, ⟨s1, s2, s3, s4⟩, hP⟩ := hN
  have e74 := (hx.2.1 74 (by omega) (by omega) (by omega) (by omega)).1
  have e75 := (hx.2.1 75 (by omega) (by omega) (by omega) (by omega)).1
  have e82 := (hx.2.1 82 (by omega) (by omega) (by omega) (by omega)).1
  have e83 := (hx.2.1 83 (by omega) (by omega) (by omega) (by omega)).1
  have i2 := hx.1 6122 (by omega) (by omega) (by omega) (by omega) (by omega)
  have i3 := hx.1 6123 (by omega) (by omega) (by omega) (by omega) (by omega)
  have i7 := hx.1 6137 (by omega) (by omega) (by omega) (by omega) (by omega)
  refine ⟨F, a, en, oa, o, ?_, fun hq x => ?_⟩
  · unfold scR
    rw [e75, e83, i2, i3, i7]
    exact ⟨s1, s2, s3, s4⟩
  · rw [hP hq]
    unfold nplc
    rw [e74, e82]
/-- a step of one word -/
theorem zO_1 {o : Op} {x : Int32} (hX : zX β n V own0 m k1 S0) (h : zO β n V P A own0 m u S0 H B0 X l S c w t f b j o1 f1 S1) (hc : c + wR (qK β n) o1 + 1 ≤ H) (hH : H ≤ 40000) (hl : lR (qK β n) o = 1) (hn : o.1 ≠ 16) (h60 : o.1 ≠ 60) (h23 : o.1 ≠ 23) (hw : wdS V P o = [x]) : ∃ S2, Ans (d + 4) 322 [.ref 61, .int x] S1 none S2 ∧ zO β n V P A own0 m u S0 H B0 X l S c w t f b j (o1 ++ [o]) f1 S2 ∧ kX m S1 S2 := by
  obtain ⟨own, hE, hback⟩ := zE_rE h.1
  obtain ⟨S2, hA, r1, r2, r3, r4⟩ := rE_1 (d := d) hE (by omega) (zE_86 hX h.1) x
  obtain ⟨z1, z2⟩ := hback S2 _ _ _ r1 hc
  have hm := hX.2.2.2.2.1
  exact ⟨S2, hA, zO_put h (by rw [hl]; exact z1) z2 r2 ⟨r4 _ (by omega), r4 _ (by omega)⟩ hn h60 (fun e => absurd e h23) (fun _ => by rw [hw]; exact one_w r3), z2⟩
/-- of two -/
theorem zO_2 {o : Op} {x y : Int32} (hX : zX β n V own0 m k1 S0) (h : zO β n V P A own0 m u S0 H B0 X l S c w t f b j o1 f1 S1) (hc : c + wR (qK β n) o1 + 2 ≤ H) (hH : H ≤ 40000) (hl : lR (qK β n) o = 2) (hn : o.1 ≠ 16) (h60 : o.1 ≠ 60) (h23 : o.1 ≠ 23) (hw : wdS V P o = [x, y]) : ∃ S2, Ans (d + 4) 302 [.ref 61, .int x, .int y] S1 none S2 ∧ zO β n V P A own0 m u S0 H B0 X l S c w t f b j (o1 ++ [o]) f1 S2 ∧ kX m S1 S2 := by
  obtain ⟨own, hE, hback⟩ := zE_rE h.1
  obtain ⟨S2, hA, r1, r2, r3, r4, r5⟩ := rE_2 (d := d) hE (by omega) (zE_86 hX h.1) x y
  obtain ⟨z1, z2⟩ := hback S2 _ _ _ r1 hc
  have hm := hX.2.2.2.2.1
  exact ⟨S2, hA, zO_put h (by rw [hl]; exact z1) z2 r2 ⟨r5 _ (by omega), r5 _ (by omega)⟩ hn h60 (fun e => absurd e h23) (fun _ => by rw [hw]; exact two_w r3 r4), z2⟩
/-- a jump whose place is told later -/
theorem zO_hole {o : Op} {x : Int32} (hX : zX β n V own0 m k1 S0) (h : zO β n V P A own0 m u S0 H B0 X l S c w t f b j o1 f1 S1) (hc : c + wR (qK β n) o1 + 2 ≤ H) (hH : H ≤ 40000) (hl : lR (qK β n) o = 2) (hn : o.1 ≠ 16) (h60 : o.1 ≠ 60) (h23 : o.1 ≠ 23) (hw : wdS V P o = [x, nI 0]) : ∃ S2, Ans (d + 5) 325 [.ref 61, .int x] S1 (some (.int (nI (c + wR (qK β n) o1 + 1)))) S2 ∧ zO β n V P A own0 m u S0 H B0 X l S c w t f b j (o1 ++ [o]) f1 S2 ∧ kX m S1 S2 := by
  obtain ⟨S2, hA, g1, g2⟩ := zO_2 (d := d) hX h hc hH hl hn h60 h23 hw
  obtain ⟨m1, m2, m3, m4, _⟩ := zE_m h.1
  obtain ⟨n1, n2, n3, n4, _⟩ := zE_m g1.1
  have e : wR (qK β n) (o1 ++ [o]) = wR (qK β n) o1 + 2 := by
    rw [wR_app]
    show wR (qK β n) o1 + (lR (qK β n) o + 0) = _
    omega
  rw [e] at n4
  have hA2 := rhole (d := d) (x := x) (k := c + (wR (qK β n) o1 + 2)) m1 m2 m3 n3 n2 hA n4 (by omega) (by omega)
  exact ⟨S2, by rw [show c + wR (qK β n) o1 + 1 = c + (wR (qK β n) o1 + 2) - 1 by omega]; exact hA2, g1, g2⟩
/-- a step with a name -/
theorem zO_nm {o : Op} {x : Int32} {r : Nat} (hX : zX β n V own0 m k1 S0) (h : zO β n V P A own0 m u S0 H B0 X l S c w t f b j o1 f1 S1) (hN : zN P A s S1) (hc : c + wR (qK β n) o1 + 4 ≤ H) (hH : H ≤ 40000) (hr : r < 2 ^ 20) (hl : lR (qK β n) o = 4) (hn : o.1 ≠ 16) (h60 : o.1 ≠ 60) (h23 : o.1 ≠ 23) (hw : wdS V P o = [x, nI r, (P s (nI r)).1, (P s (nI r)).2]) : ∃ S2, Ans (d + 5) 317 [.ref 61, .int x, .int (nI r)] S1 none S2 ∧ zO β n V P A own0 m u S0 H B0 X l S c w t f b j (o1 ++ [o]) f1 S2 ∧ kX m S1 S2 := by
  obtain ⟨own, hE, hback⟩ := zE_rE h.1
  obtain ⟨F, a, en, oa, o', hsc, hP⟩ := hN
  obtain ⟨S2, hA, r1, r2, r3, r4, r5, r6, r7⟩ := rE_name (d := d) hE (by omega) (zE_86 hX h.1) hr hsc x
  obtain ⟨z1, z2⟩ := hback S2 _ _ _ r1 hc
  have hm := hX.2.2.2.2.1
  refine ⟨S2, hA, zO_put h (by rw [hl]; exact z1) z2 r2 ⟨r7 _ (by omega), r7 _ (by omega)⟩ hn h60 (fun e => absurd e h23) ?_, z2⟩
  intro hq
  rw [hw, hP hq]
  intro i z hz
  match i, hz with
  | 0, hz => injection hz with hz; rw [← hz]; exact r3
  | 1, hz => injection hz with hz; rw [← hz]; exact r4
  | 2, hz => injection hz with hz; rw [← hz]; exact r5
  | 3, hz => injection hz with hz; rw [← hz]; exact r6
  | i + 4, hz => cases hz
/-- what a jump's hole is told -/
theorem zO_fill {o : Op} {x : Int} (hX : zX β n V own0 m k1 S0) (h : zO β n V P A own0 m u S0 H B0 X l S c w t f b j (o1 ++ o :: o2) f1 S1) (hH : H ≤ 40000) (ho : o.1 ∈ [4, 5, 10, 12]) : ∃ S2, Ans (d + 1) 326 [.ref 61, .int (nI (c + wR (qK β n) o1 + 1))] S1 none S2 ∧ zO β n V P A own0 m u S0 H B0 X l S c w t f b j (o1 ++ (o.1, [], x, ((1 + wR (qK β n) o2 : Nat) : Int)) :: o2) f1 S2 ∧ kX m S1 S2 ∧ (∀ i, sI S2 i = sI S1 i) := by
  obtain ⟨h1, h2, h3, h4, h5, h6, h7, h8, h9⟩ := h
  simp only [List.mem_cons, List.not_mem_nil, or_false] at ho
  have hcH : c + wR (qK β n) (o1 ++ o :: o2) ≤ H := by
    obtain ⟨own, N, Nw, Nt, Nd, Nb, _, _, _, _, _, _, _, _, _, _, _, _, q⟩ := id h1
    exact q
  have l1 : lR (qK β n) o = 2 := by
    unfold lR
    rw [if_neg (by omega), if_neg (by omega), if_neg (by omega), if_neg (by omega), if_neg (by omega), if_neg (by omega), if_neg (by omega), if_neg (by omega), if_neg (by omega)]
  have l2 : ∀ y z : Int, lR (qK β n) (o.1, [], y, z) = 2 := fun y z => by
    unfold lR
    rw [if_neg (by dsimp only; omega), if_neg (by dsimp only; omega), if_neg (by dsimp only; omega), if_neg (by dsimp only; omega), if_neg (by dsimp only; omega), if_neg (by dsimp only; omega), if_neg (by dsimp only; omega), if_neg (by dsimp only; omega), if_neg (by dsimp only; omega)]
  have eW : wR (qK β n) (o1 ++ o :: o2) = wR (qK β n) o1 + (2 + wR (qK β n) o2) := by
    rw [wR_app]
    show wR (qK β n) o1 + (lR (qK β n) o + wR (qK β n) o2) = _
    rw [l1]
  have eW2 : wR (qK β n) (o1 ++ (o.1, [], x, ((1 + wR (qK β n) o2 : Nat) : Int)) :: o2) = wR (qK β n) (o1 ++ o :: o2) := by
    rw [eW, wR_app]
    show wR (qK β n) o1 + (lR (qK β n) (o.1, [], x, _) + wR (qK β n) o2) = _
    rw [l2]
  have n16 : ∀ p : Op, p.1 ≠ 16 → nwO (qK β n) p = 0 ∧ ntO (qK β n) p = 0 := fun p hp => by
    unfold nwO ntO
    rw [if_neg (fun q => hp q.1), if_neg (fun q => hp q.1)]
    exact ⟨rfl, rfl⟩
  have eN : ∀ p : Op, p.1 ≠ 16 → nwN (qK β n) (o1 ++ p :: o2) = nwN (qK β n) o1 + nwN (qK β n) o2 ∧ ntN (qK β n) (o1 ++ p :: o2) = ntN (qK β n) o1 + ntN (qK β n) o2 := fun p hp => by
    obtain ⟨e1, e2⟩ := n16 p hp
    rw [nwN_app, ntN_app]
    constructor
    · show nwN (qK β n) o1 + (nwO (qK β n) p + nwN (qK β n) o2) = _
      rw [e1, Nat.zero_add]
    · show ntN (qK β n) o1 + (ntO (qK β n) p + ntN (qK β n) o2) = _
      rw [e2, Nat.zero_add]
  have eB : zbk (qK β n) c (o1 ++ (o.1, [], x, ((1 + wR (qK β n) o2 : Nat) : Int)) :: o2) = zbk (qK β n) c (o1 ++ o :: o2) := by
    rw [zbk_app, zbk_app]
    show zbk (qK β n) c o1 ++ ((if o.1 = 60 then _ else []) ++ zbk (qK β n) (c + wR (qK β n) o1 + lR (qK β n) (o.1, [], x, _)) o2) = zbk (qK β n) c o1 ++ ((if o.1 = 60 then _ else []) ++ zbk (qK β n) (c + wR (qK β n) o1 + lR (qK β n) o) o2)
    rw [if_neg (show ¬ o.1 = 60 by omega), l1, l2]
  obtain ⟨own, hE, hback⟩ := zE_rE h1
  obtain ⟨S2, hA, r1, r2, r3, r4, r5⟩ := rE_fill (d := d) (j := c + wR (qK β n) o1 + 1) hE (by omega) (by omega)
  obtain ⟨z1, z2⟩ := hback S2 _ _ _ r1 hcH
  have hk : kR m c w t S1 S2 := ⟨fun i hi => r3 i (by omega), fun i hi => r2.2.1 i (by omega), fun i hi => r2.2.2 i (by omega)⟩
  refine ⟨S2, hA, ?_, z2, r5⟩
  unfold zO
  rw [eB, eW2, (eN _ (by dsimp only; omega)).1, (eN _ (by dsimp only; omega)).2]
  rw [(eN o (by omega)).1, (eN o (by omega)).2] at h4 z1 r2
  refine ⟨z1, (r5 _).trans h2, (r5 _).trans h3, fun hq => (lsS_app o1 c).mpr ⟨?_, ?_, ?_⟩, ?_, kW_trans h6 (kX_kW z2 hk) (Nat.le_refl _) (Nat.le_refl _) (Nat.le_refl _) h8 (Nat.le_refl _), kA_trans h7 (kX_kA z2), h8, fun i p hp => ?_⟩
  · obtain ⟨a1, a2⟩ := (lsS_app o1 c).mp (h4 hq)
    exact lsS_mv r2.2.1 r2.2.2 (Nat.le_refl _) (Nat.le_refl _) o1 c c (fun q hq => h5 q (List.mem_append.mpr (Or.inl hq))) (fun i hi => r3 _ (by omega)) a1
  · obtain ⟨a1, a2⟩ := (lsS_app o1 c).mp (h4 hq)
    have g1 := a2.1.1
    have q0 : cw S2 m (c + wR (qK β n) o1) = nI (if o.1 = 4 then 11 else if o.1 = 5 then 12 else if o.1 = 10 then 32 else 34) := by
      rw [r3 _ (by omega)]
      have := g1 0 (nI (if o.1 = 4 then 11 else if o.1 = 5 then 12 else if o.1 = 10 then 32 else 34)) (by
        unfold wdS
        rcases ho with e | e | e | e <;> (rw [e]; rfl))
      exact this
    refine ⟨?_, fun e => absurd e (by dsimp only; omega), fun e => absurd e (by dsimp only; omega), fun e => absurd e (by dsimp only; omega)⟩
    have e : wdS V P (o.1, [], x, ((1 + wR (qK β n) o2 : Nat) : Int)) = [nI (if o.1 = 4 then 11 else if o.1 = 5 then 12 else if o.1 = 10 then 32 else 34), nI (1 + wR (qK β n) o2)] := by
      unfold wdS
      dsimp only
      rcases ho with e | e | e | e <;> (rw [e]; rfl)
    rw [e]
    exact two_w q0 (by rw [r4]; exact congrArg nI (by omega))
  · obtain ⟨a1, a2⟩ := (lsS_app o1 c).mp (h4 hq)
    rw [l2]
    have a3 := a2.2
    rw [l1] at a3
    exact lsS_mv r2.2.1 r2.2.2 (Nat.le_refl _) (Nat.le_refl _) o2 _ _ (fun q hq => h5 q (List.mem_append.mpr (Or.inr (List.mem_cons_of_mem _ hq)))) (fun i hi => r3 _ (by omega)) a3
  · exact w23_app.mpr ⟨fun q hq => h5 q (List.mem_append.mpr (Or.inl hq)), fun q hq => (List.mem_cons.mp hq).elim (fun e => by rw [e]; exact fun e2 => absurd e2 (by dsimp only; omega)) (fun e => h5 q (List.mem_append.mpr (Or.inr (List.mem_cons_of_mem _ e))))⟩
  · obtain ⟨e1, e2⟩ := h9 i p hp
    exact ⟨by rw [congrFun z2.2.2.2.2.2.2.1 _]; exact e1, by rw [congrFun z2.2.2.2.2.2.2.2.1 _]; exact e2⟩
/-- an expression -/
theorem z_x {D k : Nat} (hX : zX β n V own0 m k1 S0) (h : zE own0 m u S0 H B0 c w t f b S) (hN : zN P A s S) (ha : sI S 6115 = nI k) (hf : sI S 6116 = nI 0) (hk : k ≤ k1) (hR : RQ β n k c w t H W) (hH : H ≤ 40000) (hW : W ≤ 40000) (hfW : f ≤ W) (hD : 238 ≤ D) : ∃ S1 v, Ans D 306 [.ref 61, .int (nI 0)] S (some (.int v)) S1 ∧ (exs (qK β n) s k = none → v = nI 0 ∧ zB own0 m u S0 H B0 W (fl β n k) S1) ∧ ∀ r, exs (qK β n) s k = some r → v = nI 1 ∧ zO β n V P A own0 m u S0 H B0 X l S c w t f b r.1 r.2.2 f S1 ∧ kX m S S1 ∧ n60 r.2.2 ∧ sI S1 6131 = nI r.2.1 ∧ (r.2.1 ≠ 0 → sI S1 6132 = nI (c + wR (qK β n) r.2.2 - trl r.2.1)) := by
  obtain ⟨own, hE, hback⟩ := zE_rE h
  obtain ⟨F, a, en, oa, o', hsc, hP⟩ := hN
  have hcX := zX_cX (W := W) hX h (fun x => nplc S F a en oa o' x) ⟨F, a, en, oa, o', hsc, fun _ => rfl⟩ hH hW
  have hn := hX.1
  obtain ⟨S1, v, hA, x1, x2⟩ := (XR_all (u := u) (own0 := own) hcX 60000).1 0 (by decide) 0 k S c w t D (by omega) (by have : rkp 0 = 10 := rfl; omega) hk hE ha hf hR (by have : rkp 0 = 10 := rfl; omega)
  refine ⟨S1, v, hA, fun e => ?_, fun r e => ?_⟩
  · have hp : px (qK β n) 60000 0 0 k 0 0 = none := by
      cases hq : px (qK β n) 60000 0 0 k 0 0 with
      | none => rfl
      | some y => unfold exs at e; rw [hq] at e; cases e
    obtain ⟨v0, ⟨c', w', t', b1, b2, b3, b4⟩, b5⟩ := x1 hp
    exact ⟨v0, ⟨c', w', t', f, b, (hback S1 _ _ _ b1 b2).1, b3, b4, hfW⟩, b5⟩
  · obtain ⟨y, hy, e2⟩ := Option.bind_eq_some_iff.mp e
    injection e2 with e2
    subst e2
    obtain ⟨v1, g1, g2, g3, g4, g5, g6⟩ := x2 y hy
    have hpg := zpx_pg hy
    obtain ⟨p1, p2, p3, p4, p5, p6⟩ := px_pm (Or.inl (by decide)) hy
    have hr := (rm_run p1 p3).1
    have hq := (q_lt β n y.1).1
    unfold rm at hr
    obtain ⟨R1, R2, R3⟩ := hR
    obtain ⟨z1, z2⟩ := hback S1 _ _ _ g1 (by omega)
    obtain ⟨e60, e23⟩ := pg_n (s := s) hpg
    obtain ⟨g7, g8⟩ := g6 (fun e => by cases e)
    refine ⟨v1, ?_, z2, e60, g7, fun e => by rw [wR_tgsc]; exact g8 e⟩
    unfold zO
    dsimp only
    rw [wR_tgsc, (nwN_tgsc _ _ _).1, (nwN_tgsc _ _ _).2, zbk_n _ _ _ e60]
    exact ⟨z1, g2, g3, fun hq => lsR_lsS _ _ hpg (by rw [show P s = fun x => nplc S F a en oa o' x from funext (hP hq)]; exact g4), e23, kX_kW z2 g5, kX_kA z2, Nat.le_refl _, fun i p hp => by cases hp⟩
end
