/-! STATEMENTS OF THE REFERENCE: a sequence, a block: from less to more fuel -/
theorem sb_r {x : PT} {f : PT → PSr} : sb (.inr x) f = f x := rfl
theorem sb_l {q : Nat} {f : PT → PSr} : sb (.inl q) f = .inl q := rfl
theorem q_ls2 {β : Nat → Nat} {n k : Nat} (h : qK β n (k - 1) = 2 ∨ k = 0) : qK β n k ≠ 2 := by
  rcases k with _ | j
  · exact ln_k2 (Nat.zero_le _)
  · rcases h with h | h
    · have hj : qK β n j = 2 := h
      have h2 : (tq β n j).1 = 2 := hj
      show (tq_nx β n (tq β n j)).1 ≠ 2
      unfold tq_nx
      rw [if_neg (by omega), if_pos h2]
      split
      · rename_i h3
        exact ln_k2 (by omega)
      · exact show (1 : Nat) ≠ 2 by decide
    · cases h
section
variable {β : Nat → Nat} {n : Nat} {E : Nat → Nat → Bool} {V : Nat → Int32} {T : Nat → Nat × Nat} {P : Nat → Int32 → Int32 × Int32} {own0 : Nat → Nat × Nat} {m u k1 : Nat} {S0 S S1 S2 : cS} {H B0 W d l c w t f f1 b j s : Nat} {X Y : Nat → Nat} {o1 o2 : List Op} {A : Prop}
theorem zG_nil {z dp ind tr af k : Nat} {opn : Nat → Nat} {lp : LpT} {sc : SCs} {at' : List Nat} (h : zI0 β n E V T own0 m u k1 S0 H B0 W z opn dp ind s lp tr sc at' X af c w t b k S) : zG β n E V T own0 m u k1 S0 H B0 z ind lp sc at' X af S c w t b k (k, [], sc, at') S := by
  obtain ⟨h1, h2, h3, h4, h5, h6, h7, h8, h9, h10, h11, h12, h13⟩ := h
  refine ⟨zO_nil h1 h2 h3, kI_refl S, fun _ => rfl, fun hz => ⟨(h8 hz).2.2, Nat.le_refl _, Nat.le_refl _⟩, h5, (fun _ o ho => by cases ho), ?_, ?_, ?_, Nat.le_refl _, ?_, fun j h1 h2 => absurd (show j < k from h2) (by omega), h7, fun e => absurd e (Nat.lt_irrefl _), Nat.le_refl _, scL_refl E sc⟩
  all_goals exact Nat.le_of_eq (Nat.zero_add _)
/-- whether the indent of token k is one of a block around -/
theorem blE {k bl : Nat} {opn : Nat → Nat} (hX : zX β n V own0 m k1 S0) (h : zE own0 m u S0 H B0 c w t f b S) (ha : sI S 6115 = nI k) (hf : sI S 6116 = nI 0) (hk : k ≤ k1) (hK1 : qK β n k ≠ 1) (hK2 : qK β n k ≠ 2) (hbl : sI S 6117 = nI bl) (hbM : bl < 14) (hop : ∀ i, i ≤ bl → sA S 73 i = nI (opn i) ∧ opn i < 4000) (hw : w ≤ W) (ht : t ≤ W) (hfW : f ≤ W) : ∀ r i, i + r = bl + 1 → (∀ i', i' < i → opn i' ≠ qI β n k) → ∃ S1 v, (∀ lv, sm_get lv 0 = some (.ref 61) → sm_get lv 4 = some (.int (nI i)) → Bod (d + 8) 334 186 lv [] S (some (.int v)) S1) ∧ ((v = nI 1 ∧ S1 = S ∧ ∃ i', i' ≤ bl ∧ opn i' = qI β n k) ∨ (v = nI 0 ∧ zB own0 m u S0 H B0 W (fl β n k) S1 ∧ ∀ i', i' ≤ bl → opn i' ≠ qI β n k)) := by
  have hk1 := hX.2.1
  have hiM := k_i (k := k) hX
  obtain ⟨t1, t2, t3, -⟩ := z_tok hX h hk
  have h70 := t3 hK1 hK2
  intro r
  induction r with
  | zero =>
    intro i hi hn
    obtain ⟨b1, b2⟩ := z_bad (d := d + 6) hX h ha hf hk hw ht hfW
    exact ⟨_, _, fun lv q0 q4 => zBlE_1 q0 q4 (by omega) hbl hbM (by omega) b1, Or.inr ⟨rfl, b2, fun i' hi' => hn i' (by omega)⟩⟩
  | succ r ih =>
    intro i hi hn
    obtain ⟨o1, o2⟩ := hop i (by omega)
    by_cases he : opn i = qI β n k
    · exact ⟨S, nI 1, fun lv q0 q4 => zBlE_3 q0 q4 (by omega) hbl hbM (by omega) (by omega) o1 (by omega) ha (by omega) h70 (by omega) he, Or.inl ⟨rfl, rfl, i, by omega, he⟩⟩
    · obtain ⟨S1, v, hB, hO⟩ := ih (i + 1) (by omega) (fun i' hi' => by
        rcases Nat.lt_or_ge i' i with e | e
        · exact hn i' e
        · obtain rfl : i' = i := by omega
          exact he)
      exact ⟨S1, v, fun lv q0 q4 => zBlE_2 q0 q4 (by omega) hbl hbM (by omega) (by omega) o1 (by omega) ha (by omega) h70 (by omega) he (fun lv1 a0 a4 => hB lv1 a0 a4), hO⟩
/-- in a function there is an indent -/
theorem zIn_s {z dp ind tr af k : Nat} {opn : Nat → Nat} {lp : LpT} {sc : SCs} {at' : List Nat} (h : zIn β n E V T own0 m u k1 S0 H B0 W z opn dp ind s lp tr sc at' X af c w t b k S) (hK : qK β n k ≠ 1) (hI : qI β n k = ind) : s ≠ 0 → 1 ≤ ind := by
  intro hs
  obtain ⟨⟨h1, h2, h3, h4, h5⟩, _, hls, _⟩ := h
  obtain ⟨c0, c1, c2, c3, c4, c5, c6, c7, c8, c9, c10⟩ := h4
  obtain ⟨ls, os, a, b', pm, ch, q, U, e1, e2, e3, e4, e5, e6, e7⟩ := c9
  have hF : 1 ≤ X 1 := by
    rcases Nat.lt_or_ge 0 (X 1) with e | e
    · exact e
    · exact absurd (c10.mpr (by omega)) hs
  obtain ⟨r1, r2⟩ := rgn_S (e5 hF hK (by omega)) (Or.inr hls)
  have := (r2 k r1 (Nat.le_refl _)).1
  omega
/-- one piece behind another -/
theorem zG_app {z ind af k : Nat} {lp : LpT} {sc : SCs} {at' : List Nat} {x y : PT} (h : zG β n E V T own0 m u k1 S0 H B0 z ind lp sc at' X af S c w t b k x S1) (g : zG β n E V T own0 m u k1 S0 H B0 z ind lp x.2.2.1 x.2.2.2 Y af S1 (c + wR (qK β n) x.2.1) (w + nwN (qK β n) x.2.1) (t + ntN (qK β n) x.2.1) (b + (zbk (qK β n) c x.2.1).length) x.1 y S2) (hXY : ∀ i, X i ≤ Y i) (h2 : Y 2 = X 2) (hls : qK β n (k - 1) = 2 ∨ k < x.1) : zG β n E V T own0 m u k1 S0 H B0 z ind lp sc at' X af S c w t b k (y.1, x.2.1 ++ y.2.1, y.2.2.1, y.2.2.2) S2 := by
  obtain ⟨h1, h2', h3, h4, h5, h6, h7, h8, h9, h10, h11, h12, h13, h14, h15, h16⟩ := h
  obtain ⟨g1, g2, g3, g4, g5, g6, g7, g8, g9, g10, g11, g12, g13, g14, g15, g16⟩ := g
  rw [h2] at g1
  have hw := zO_app (Y := Y) h1 g1 hXY (agT_L g16)
  refine ⟨hw, kI_trans h2' g2, fun hz => (g3 hz).trans (h3 hz), fun hz => ?_, g5, fun e => n60_app.mpr ⟨h6 e, g6 e⟩, ?_, ?_, ?_, ?_, ?_, fun j j1 j2 => ?_, g13, fun _ => ?_, Nat.le_trans h15 g15, scL_trans h16 g16⟩
  · obtain ⟨a1, a2, a3⟩ := h4 hz
    obtain ⟨b1, b2, b3⟩ := g4 hz
    exact ⟨b1, by dsimp only; omega, by dsimp only; omega⟩
  · dsimp only
    rw [wR_app]
    omega
  · dsimp only
    rw [nwN_app]
    omega
  · dsimp only
    rw [ntN_app]
    omega
  · dsimp only
    omega
  · dsimp only
    rw [zbk_app, List.length_append]
    omega
  · rcases Nat.lt_or_ge j x.1 with e | e
    · exact h12 j j1 e
    · exact g12 j e j2
  · rename_i e
    dsimp only at e ⊢
    rcases Nat.lt_or_ge x.1 y.1 with e2 | e2
    · exact g14 e2
    · obtain e3 : y.1 = x.1 := by omega
      rw [e3]
      exact h14 (by omega)
theorem rkd_7 {k : Nat} : rkd k = 7 ↔ k = 1 := by
  unfold rkd
  repeat' split
  all_goals omega
theorem rkd_6 {k : Nat} : rkd k = 6 ↔ k = 2 := by
  unfold rkd
  repeat' split
  all_goals omega
theorem ZQ_s {F z : Nat} (hX : zX β n V own0 m k1 S0) (hz : z = 0 ∨ z = 1) (hS : ZS β n E V T own0 m u k1 S0 H B0 W F z) (hQ : ZQ β n E V T own0 m u k1 S0 H B0 W F z) : ZQ β n E V T own0 m u k1 S0 H B0 W (F + 1) z := by
  intro opn dp ind s lp tr ca sc at' X af c w t b k S d hdp h hF hD
  have e : ps (qK β n) (qL β n) (qI β n) E (F + 1) (tmZ z) dp ind s lp tr ca c sc at' k = psQ (qK β n) (qL β n) (qI β n) (ps (qK β n) (qL β n) (qI β n) E F) (umZ z) (tmZ z) dp ind s lp tr ca c sc at' k := by
    rcases hz with rfl | rfl <;> rfl
  rw [e]
  obtain ⟨h0, hrm, hls, hbd⟩ := id h
  obtain ⟨h1, h2, h3, h4, h5, h6, h7, h8, h9, h10, h11, h12, h13⟩ := id h0
  obtain ⟨⟨c01, c02, c03, c04, c05⟩, -⟩ := id h4
  have hs1 := zIn_s h
  have hk1 := hX.2.1
  have hiM := k_i (k := k) hX
  obtain ⟨t1, t2, t3, -⟩ := z_tok hX h1 h7
  have hlt := rkd_lt (qK β n k)
  have hzM : z < 2 ^ 20 := by omega
  have hoM := (c05 dp (Nat.le_refl _)).2
  rw [c04] at hoM
  by_cases hK1 : qK β n k = 1
  · have e2 : psQ (qK β n) (qL β n) (qI β n) (ps (qK β n) (qL β n) (qI β n) E F) (umZ z) (tmZ z) dp ind s lp tr ca c sc at' k = .inr (k, [], sc, at') := if_pos (Or.inl hK1)
    rw [e2]
    refine ⟨_, _, fun lv q0 q2 q3 => zBlL_1 q0 q2 q3 hzM (by omega) h2 (by omega) t1 (by omega) (rkd_7.mpr hK1) c02 (by omega) hdp, Or.inr ⟨_, S, rfl, rfl, rfl, zG_nil h0⟩⟩
  have hK2 := q_ls2 hls
  have h70 := t3 hK1 hK2
  by_cases hlt2 : qI β n k < ind
  · have e2 : psQ (qK β n) (qL β n) (qI β n) (ps (qK β n) (qL β n) (qI β n) E F) (umZ z) (tmZ z) dp ind s lp tr ca c sc at' k = .inr (k, [], sc, at') := if_pos (Or.inr hlt2)
    rw [e2]
    obtain ⟨S1, v, hB, hO⟩ := blE (d := d) (W := W) (opn := opn) (bl := dp - 1) hX (zE_wI (i := 6117) (x := nI (dp - 1)) h1 (by decide)) ((rIn _ _ (by decide)).trans h2) ((rIn _ _ (by decide)).trans h3) h7 hK1 hK2 (rIe _ _ _) (by omega) (fun i hi => c05 i (by omega)) h9 h10 h11 dp 0 (by omega) (fun i hi => absurd hi (Nat.not_lt_zero i))
    refine ⟨S1, v, fun lv q0 q2 q3 => zBlL_2 q0 q2 q3 hzM (by omega) h2 (by omega) t1 (by omega) (fun e => hK1 (rkd_7.mp e)) h70 (by omega) hlt2 c02 (by omega) hdp (fun lv1 a0 a4 => hB lv1 a0 a4), ?_⟩
    rcases hO with ⟨v1, s1, _⟩ | ⟨v0, b2, b3⟩
    · exact Or.inr ⟨_, S, rfl, v1, s1, zG_nil h0⟩
    · exact Or.inl ⟨_, Or.inr ⟨_, rfl, hK1, fun i hi => b3 i (by omega), rfl⟩, v0, b2⟩
  by_cases hgt : ind < qI β n k
  · have e2 : psQ (qK β n) (qL β n) (qI β n) (ps (qK β n) (qL β n) (qI β n) E F) (umZ z) (tmZ z) dp ind s lp tr ca c sc at' k = .inl (qL β n k) := by
      unfold psQ
      rw [if_neg (by omega), if_pos hgt]
    rw [e2]
    obtain ⟨b1, b2⟩ := z_bad (d := d + 6) hX h1 h2 h3 h7 h9 h10 h11
    exact ⟨_, _, fun lv q0 q2 q3 => zBlL_7 q0 q2 q3 hzM (by omega) h2 (by omega) t1 (by omega) (fun e => hK1 (rkd_7.mp e)) h70 (by omega) (by omega) hgt b1, Or.inl ⟨_, zB_in rfl, rfl, b2⟩⟩
  have hI : qI β n k = ind := by omega
  have e2 : psQ (qK β n) (qL β n) (qI β n) (ps (qK β n) (qL β n) (qI β n) E F) (umZ z) (tmZ z) dp ind s lp tr ca c sc at' k = sb (ps (qK β n) (qL β n) (qI β n) E F (umZ z) dp ind s lp tr ca c sc at' k) fun x => sb (ps (qK β n) (qL β n) (qI β n) E F (tmZ z) dp ind s lp tr (ca + wC x.2.1) (c + wR (qK β n) x.2.1) x.2.2.1 x.2.2.2 x.1) fun y => .inr (y.1, x.2.1 ++ y.2.1, y.2.2.1, y.2.2.2) := by
    unfold psQ
    rw [if_neg (by omega), if_neg (by omega)]
  rw [e2]
  obtain ⟨S1, v, hA, hO⟩ := hS opn dp ind s lp tr ca sc at' X af c w t b k S (d + 8) h hK1 hI (by omega) hD
  -- the statement's way
  have hway0 : v = nI 0 → ∀ lv, sm_get lv 0 = some (.ref 61) → sm_get lv 2 = some (.int (nI z)) → sm_get lv 3 = some (.int (nI ind)) → Bod (d + 8) 334 89 lv [] S (some (.int (nI 0))) S1 := by
    intro hv lv q0 q2 q3
    rw [hv] at hA
    rcases hz with rfl | rfl
    · exact zBlL_4 q0 q2 q3 hzM (by omega) h2 (by omega) t1 (by omega) (fun e => hK1 (rkd_7.mp e)) h70 (by omega) (by omega) (by omega) rfl hA
    · exact zBlL_6 q0 q2 q3 hzM (by omega) h2 (by omega) t1 (by omega) (fun e => hK1 (rkd_7.mp e)) h70 (by omega) (by omega) (by omega) (by decide) hA
  rcases hO with ⟨l, hb, hv, hzB⟩ | ⟨x, hx, hv, hG⟩
  · refine ⟨S1, nI 0, hway0 hv, Or.inl ⟨l, ?_, rfl, hzB⟩⟩
    rcases hb with ⟨q, hq, hl⟩ | ⟨x, hx, e1, e3, hl⟩
    · rw [hq]
      exact Or.inl ⟨q, rfl, hl⟩
    · rw [hx, sb_r]
      obtain ⟨F', rfl⟩ : ∃ F', F = F' + 1 := ⟨F - 1, by omega⟩
      have e4 : ps (qK β n) (qL β n) (qI β n) E (F' + 1) (tmZ z) dp ind s lp tr (ca + wC x.2.1) (c + wR (qK β n) x.2.1) x.2.2.1 x.2.2.2 x.1 = psQ (qK β n) (qL β n) (qI β n) (ps (qK β n) (qL β n) (qI β n) E F') (umZ z) (tmZ z) dp ind s lp tr (ca + wC x.2.1) (c + wR (qK β n) x.2.1) x.2.2.1 x.2.2.2 x.1 := by
        rcases hz with rfl | rfl <;> rfl
      rw [e4]
      unfold psQ
      by_cases hi : qI β n x.1 < ind
      · rw [if_pos (Or.inr hi)]
        exact Or.inr ⟨_, rfl, e1, fun i hi => e3 i (by omega), hl⟩
      · have := e3 dp (by omega)
        rw [c04] at this
        rw [if_neg (by omega), if_pos (by omega)]
        exact Or.inl ⟨_, rfl, hl⟩
  · rw [hx, sb_r]
    obtain ⟨g1, g2, g3, g4, g5, g6, g7, g8, g9, g10, g11, g12, g13, g14, g15, g16⟩ := id hG
    have hu : umZ z = 0 ∨ umZ z = 5 := by
      rcases hz with rfl | rfl
      · exact Or.inl rfl
      · exact Or.inr rfl
    obtain ⟨_, hklt, hrem, _⟩ := (ps_H β n E F).1 (umZ z) dp ind s lp tr ca c sc at' k x hu hI (hs1 hK1 hI) hx
    have hN := zIn_next hX h hz hK1 hI hG hklt
    obtain ⟨S3, v3, hB3, hO3⟩ := hQ opn dp ind s lp tr (ca + wC x.2.1) x.2.2.1 x.2.2.2 (upX z (af + x.2.2.2.length) X) af _ _ _ _ x.1 S1 d hdp hN (by omega) hD
    rw [hv] at hA
    refine ⟨S3, v3, fun lv q0 q2 q3 => ?_, ?_⟩
    · rcases hz with rfl | rfl
      · exact zBlL_3 q0 q2 q3 hzM (by omega) h2 (by omega) t1 (by omega) (fun e => hK1 (rkd_7.mp e)) h70 (by omega) (by omega) (by omega) rfl hA (fun lv1 a0 a2 a3 => hB3 lv1 a0 a2 a3)
      · exact zBlL_5 q0 q2 q3 hzM (by omega) h2 (by omega) t1 (by omega) (fun e => hK1 (rkd_7.mp e)) h70 (by omega) (by omega) (by omega) (by decide) hA (fun lv1 a0 a2 a3 => hB3 lv1 a0 a2 a3)
    · rcases hO3 with ⟨l, hb, hv3, hzB⟩ | ⟨y, S4, hy, hv3, hS3, hG3⟩
      · refine Or.inl ⟨l, ?_, hv3, hzB⟩
        rcases hb with ⟨q, hq, hl⟩ | ⟨y, hy, e1, e3, hl⟩
        · rw [hq]
          exact Or.inl ⟨q, rfl, hl⟩
        · rw [hy]
          exact Or.inr ⟨_, rfl, e1, e3, hl⟩
      · rw [hy]
        refine Or.inr ⟨_, S4, rfl, hv3, hS3, zG_app hG hG3 (fun i => ?_) (if_neg (fun e => by cases e.1)) (Or.inr hklt)⟩
        show X i ≤ if i = 6 ∧ z = 1 then _ else X i
        split
        · rename_i e
          rw [e.1]
          have := (h8 e.2).2.1
          have := (g4 e.2).2.2
          omega
        · exact Nat.le_refl _
end
