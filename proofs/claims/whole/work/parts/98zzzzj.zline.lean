/-! STATEMENTS OF THE REFERENCE: along a line; an expression in a statement; a loop around a block -/
section
variable {β : Nat → Nat} {n : Nat} {E : Nat → Nat → Bool} {V : Nat → Int32} {T : Nat → Nat × Nat} {P : Nat → Int32 → Int32 × Int32} {own0 : Nat → Nat × Nat} {m u k1 : Nat} {S0 S S1 S2 : cS} {H B0 W d l c w t f f1 b j s : Nat} {X Y : Nat → Nat} {o1 o2 : List Op} {A A1 : Prop}
theorem kX_39 (hx : kX m S S1) : sI S1 6139 = sI S 6139 := hx.1 6139 (by decide) (by decide) (by decide) (by decide) (by decide)
/-- the same code, another state -/
theorem zO_ext (h : zO β n V P A own0 m u S0 H B0 X l S c w t f b j o1 f1 S1) (hE : zE own0 m u S0 H B0 (c + wR (qK β n) o1) (w + nwN (qK β n) o1) (t + ntN (qK β n) o1) f1 (b + (zbk (qK β n) c o1).length) S2) (ha : sI S2 6115 = sI S1 6115) (hf : sI S2 6116 = sI S1 6116) (hkW : kW m (c + wR (qK β n) o1) (w + nwN (qK β n) o1) (t + ntN (qK β n) o1) f1 (b + (zbk (qK β n) c o1).length) S1 S2) (hkA : kA X S1 S2) : zO β n V P A own0 m u S0 H B0 X l S c w t f b j o1 f1 S2 := by
  have g : zO β n V P A own0 m u S0 H B0 X l S1 (c + wR (qK β n) o1) (w + nwN (qK β n) o1) (t + ntN (qK β n) o1) f1 (b + (zbk (qK β n) c o1).length) j [] f1 S2 := ⟨hE, ha.trans h.2.1, hf.trans h.2.2.1, fun _ => trivial, (fun o ho => by cases ho), hkW, hkA, Nat.le_refl _, fun i p hp => by cases hp⟩
  have r := zO_app h g (fun _ => Nat.le_refl _) id
  rwa [List.append_nil] at r
/-- from a state before, of the same code -/
theorem zO_pre (h : zO β n V P A own0 m u S0 H B0 X l S1 c w t f b j o1 f1 S2) (hkW : kW m c w t f b S S1) (hkA : kA X S S1) : zO β n V P A own0 m u S0 H B0 X l S c w t f b j o1 f1 S2 := ⟨h.1, h.2.1, h.2.2.1, h.2.2.2.1, h.2.2.2.2.1, kW_trans hkW h.2.2.2.2.2.1 (Nat.le_refl _) (Nat.le_refl _) (Nat.le_refl _) (Nat.le_refl _) (Nat.le_refl _), kA_trans hkA h.2.2.2.2.2.2.1, h.2.2.2.2.2.2.2⟩
theorem zO_A (h : zO β n V P A1 own0 m u S0 H B0 X l S c w t f b j o1 f1 S1) (hA : A → A1) : zO β n V P A own0 m u S0 H B0 X l S c w t f b j o1 f1 S1 := ⟨h.1, h.2.1, h.2.2.1, fun q => h.2.2.2.1 (hA q), h.2.2.2.2⟩
/-- further along a line -/
theorem zI0_X {z dp ind tr af k k' c' w' t' : Nat} {opn : Nat → Nat} {lp : LpT} {sc sc' : SCs} {at' : List Nat} (h : zI0 β n E V T own0 m u k1 S0 H B0 W z opn dp ind s lp tr sc at' X af c w t b k S) (hx : kX m S S1) (hE : zE own0 m u S0 H B0 c' w' t' (sc.1.length - 1) b S1) (ha : sI S1 6115 = nI k') (hf : sI S1 6116 = nI 0) (hc : c ≤ c') (hw : w' ≤ W) (ht : t' ≤ W) (hk : k ≤ k') (hk1 : k' ≤ k1) (hK : qK β n k ≠ 1) (hI : qI β n k = ind) (hl : ∀ j, k ≤ j → j ≤ k' → qK β n j ≠ 1 ∧ ind ≤ qI β n j) (hs1 : sc'.1 = sc.1) (hsL : scL E sc sc') (hz : z = 0 ∨ z = 1) (hk13 : k' = k ∨ qK β n k ≠ 13) : zI0 β n E V T own0 m u k1 S0 H B0 W z opn dp ind s lp tr sc' at' X af c' w' t' b k' S1 := by
  obtain ⟨h1, h2, h3, h4, h5, h6, h7, h8, h9, h10, h11, h12, h13⟩ := h
  obtain ⟨⟨c01, c02, c03, c04, c05⟩, c1, c2, c3, c4, c5, c6, ⟨c71, c72, c73, c74⟩, ⟨c81, c82⟩, c9, c10⟩ := id h4
  have hq := qP_le (β := β) (n := n) hk
  have e84 := (hx.2.1 84 (by omega) (by omega) (by omega) (by omega)).1
  have hbA : bkA S1 = bkA S := hx.2.2.2.2.2.2.1
  have hbL : bkL S1 = bkL S := hx.2.2.2.2.2.2.2.1
  refine ⟨by rw [hs1]; exact hE, ha, hf, zCt_go h4 (agT_L hsL) hsL (kX_kI hx) (kX_kA hx) (fun _ => kX_39 hx) (fun _ => ⟨X 6, (kX_39 hx).trans c71, Nat.le_refl _, by omega, rfl⟩) (fun _ _ => rfl) (fun _ => rfl) ?_ hc (by rw [hbA, hbL]; exact c81) (by omega) hk (fun own st hr _ _ => ?_), ?_, by rw [hs1]; exact h6, hk1, fun hz => ?_, hw, ht, by rw [hs1]; exact h11, h12, h13⟩
  · exact hz
  · rcases hk13 with hk13 | hk13
    · rw [hk13]
      exact hr hK (by omega)
    have hr0 := rgn_S (hr hK (by omega)) (Or.inl hk13)
    have hown := (hr0.2 k hr0.1 (Nat.le_refl _)).1
    exact rgn_go hr0 hk (fun j j1 j2 => by
      obtain ⟨e1, e2⟩ := hl j j1 j2
      exact ⟨by omega, e1⟩)
  · rw [hs1]
    exact fun i e he => by
      obtain ⟨e1, e2, e3, e4⟩ := h5 i e he
      exact ⟨(congrFun hx.2.2.1 i).trans e1, (congrFun hx.2.2.2.1 i).trans e2, (congrFun hx.2.2.2.2.1 i).trans e3, (congrFun hx.2.2.2.2.2.1 i).trans e4⟩
  · obtain ⟨e0, e1, e2, e3⟩ := h8 hz
    exact ⟨e0, e1, (kX_39 hx).trans e2, fun i q hq => by rw [e84]; exact e3 i q hq⟩
theorem ln_tk {k r : Nat} (hK : qK β n k ≠ 1) (h : ∀ j, k ≤ j → j < r → 3 ≤ qK β n j) : ∀ j, k ≤ j → j ≤ r → qK β n j ≠ 1 ∧ qI β n j = qI β n k ∧ qL β n j = qL β n k := fun j j1 j2 => by
  obtain ⟨_, a2, a3, a4⟩ := rm_run (β := β) (n := n) (k := k) (k1 := j) j1 (fun q q1 q2 => h q q1 (by omega))
  rcases Nat.lt_or_ge k j with e | e
  · exact ⟨a4 e, a3, a2⟩
  · obtain rfl : j = k := by omega
    exact ⟨hK, rfl, rfl⟩
theorem exs_3 {k : Nat} {r : Nat × Nat × List Op} (h : exs (qK β n) s k = some r) : (∀ j, k ≤ j → j < r.1 → 3 ≤ qK β n j) ∧ k + 1 ≤ r.1 ∧ wR (qK β n) r.2.2 ≤ 8 * (r.1 - k) ∧ nwN (qK β n) r.2.2 ≤ r.1 - k ∧ ntN (qK β n) r.2.2 ≤ r.1 - k := by
  obtain ⟨r0, h1, h2⟩ := exs_px h
  obtain ⟨p1, p2, p3, p4, p5, p6⟩ := px_pm (Or.inl (by decide)) h1
  obtain ⟨e1, e2, e3⟩ := map_wR (qK β n) s r0.2.2
  rw [h2]
  dsimp only
  rw [e1, e2, e3]
  exact ⟨p3, p2 (by decide), p4, p5, p6⟩
theorem rem_ge {k : Nat} (hK : qK β n k ≠ 1) : rem β n k = rm β n k + qI β n k ∧ 1 ≤ rm β n k := by
  refine ⟨rem_rm hK, ?_⟩
  have := (q_lt β n k).1
  unfold rm
  omega
/-- an expression in a statement, from token j of its line on -/
theorem zIs_x {z dp ind tr af k q c' w' t' : Nat} {opn : Nat → Nat} {lp : LpT} {sc : SCs} {at' : List Nat} {D : Nat} (hX : zX β n V own0 m k1 S0) (h : zI0 β n E V T own0 m u k1 S0 H B0 W z opn dp ind s lp tr sc at' X af c w t b k S) (hx : kX m S S1) (hE : zE own0 m u S0 H B0 c' w' t' (sc.1.length - 1) b S1) (ha : sI S1 6115 = nI q) (hf : sI S1 6116 = nI 0) (hq : q ≤ k1) (hc : c' + 8 * (rm β n q - 1) ≤ H) (hw : w' + (rm β n q - 1) ≤ W) (ht : t' + (rm β n q - 1) ≤ W) (hD : 238 ≤ D) : ∃ S2 v, Ans D 306 [.ref 61, .int (nI 0)] S1 (some (.int v)) S2 ∧ (exs (qK β n) s q = none → v = nI 0 ∧ zB own0 m u S0 H B0 W (fl β n q) S2) ∧ ∀ r, exs (qK β n) s q = some r → v = nI 1 ∧ (∀ Y l, zO β n V (zPT (qK β n) (qI β n) V T) (agT T sc.1) own0 m u S0 H B0 Y l S1 c' w' t' (sc.1.length - 1) b r.1 r.2.2 (sc.1.length - 1) S2) ∧ kX m S1 S2 ∧ n60 r.2.2 ∧ sI S2 6131 = nI r.2.1 ∧ (r.2.1 ≠ 0 → sI S2 6132 = nI (c' + wR (qK β n) r.2.2 - trl r.2.1)) := by
  obtain ⟨h1, h2, h3, h4, h5, h6, h7, h8, h9, h10, h11, h12, h13⟩ := id h
  obtain ⟨c0, ⟨c11, c12⟩, c2, c3, c4, c5, c6, c7, c8, c9, c10⟩ := id h4
  have hF : X 1 < 15 := by have := c0.2.2.1; omega
  have hN := zN_X (zSc_N c9 c11 hF c4 c5) hx
  have hr : rm β n q = n + 1 - qP β n q := rfl
  obtain ⟨S2, v, hA, x1, x2⟩ := z_x (X := fun _ => 0) (l := 0) hX hE hN ha hf hq (W := W) ⟨by omega, by omega, by omega⟩ h12 h13 h11 hD
  refine ⟨S2, v, hA, x1, fun r hr => ?_⟩
  obtain ⟨v1, g1, g2, g3, g4, g5⟩ := x2 r hr
  exact ⟨v1, fun Y l => zO_l ⟨g1.1, g1.2.1, g1.2.2.1, g1.2.2.2.1, g1.2.2.2.2.1, g1.2.2.2.2.2.1, kX_kA g2, g1.2.2.2.2.2.2.2⟩ g3, g2, g3, g4, g5⟩
def upL (L : Nat) (X : Nat → Nat) : Nat → Nat := fun i => if i = 2 then L else X i
/-- a loop begins: the context of its block -/
theorem zI0_loop {dp ind tr af k on ca : Nat} {opn : Nat → Nat} {lp : LpT} {sc : SCs} {at' : List Nat} (h : zI0 β n E V T own0 m u k1 S0 H B0 W 0 opn dp ind s lp tr sc at' X af c w t b k S) (hon : on ≤ c) (hL : X 2 ≤ dp) (htr : sI S 6127 = nI tr) (hS1 : S1 = wI 6126 (nI (X 2 + 1)) (wA 78 (X 2) (nI tr) (wA 77 (X 2) (nI on) S))) : zI0 β n E V T own0 m u k1 S0 H B0 W 0 opn dp ind s (some (ca, on, tr)) tr sc at' (upL (X 2 + 1) X) af c w t b k S1 ∧ (∀ c' w' t' f' b', kW m c' w' t' f' b' S S1) ∧ kA X S S1 ∧ (∀ i, i ≠ 6126 → sI S1 i = sI S i) ∧ sI S1 6126 = nI (X 2 + 1) := by
  obtain ⟨h1, h2, h3, h4, h5, h6, h7, h8, h9, h10, h11, h12, h13⟩ := h
  obtain ⟨⟨c01, c02, c03, c04, c05⟩, ⟨c11, c12⟩, ⟨c21, c22, c23⟩, ⟨tr', c31, c32, c33⟩, c4, c5, ⟨c61, c62⟩, ⟨c71, c72, c73, c74⟩, ⟨c81, c82⟩, c9, c10⟩ := id h4
  have i3 : ∀ i, i ≠ 6126 → sI S1 i = sI S i := fun i hi => by rw [hS1]; exact rIn _ _ hi
  have i6 : sI S1 6126 = nI (X 2 + 1) := by rw [hS1]; exact rIe _ _ _
  have hsA : ∀ a, a ≠ 77 → a ≠ 78 → sA S1 a = sA S a := fun a a1 a2 => by
    rw [hS1]
    show sA (wA 78 (X 2) (nI tr) (wA 77 (X 2) (nI on) S)) a = _
    rw [rAn _ _ _ a2, rAn _ _ _ a1]
  have hs7 : sA S1 77 = upd (sA S 77) (X 2) (nI on) := by
    rw [hS1]
    rfl
  have hs8 : sA S1 78 = upd (sA S 78) (X 2) (nI tr) := by
    rw [hS1]
    rfl
  have e7 := zE_wA (a := 77) (i := X 2) (x := nI on) h1 (by decide)
  have e8 := zE_wA (a := 78) (i := X 2) (x := nI tr) e7 (by decide)
  have hE : zE own0 m u S0 H B0 c w t (sc.1.length - 1) b S1 := by rw [hS1]; exact zE_wI e8 (by decide)
  have hkW : ∀ c' w' t' f' b', kW m c' w' t' f' b' S S1 := fun c' w' t' f' b' => by
    rw [hS1]
    exact kW_trans (kW_trans (kW_wA h1 (by decide) c' w' t' f' b') (kW_wA e7 (by decide) c' w' t' f' b') (Nat.le_refl _) (Nat.le_refl _) (Nat.le_refl _) (Nat.le_refl _) (Nat.le_refl _)) (kW_wI c' w' t' f' b') (Nat.le_refl _) (Nat.le_refl _) (Nat.le_refl _) (Nat.le_refl _) (Nat.le_refl _)
  have hkA : kA X S S1 := by
    refine ⟨fun i _ => ?_, fun i _ => ⟨?_, ?_, ?_⟩, fun i hi => ⟨?_, ?_⟩, fun i _ => ?_, fun i _ => ?_, fun i _ => ?_, fun i _ => ?_⟩
    case refine_5 => rw [hs7, upd_at, if_neg (by omega)]
    case refine_6 => rw [hs8, upd_at, if_neg (by omega)]
    all_goals rw [hsA _ (by decide) (by decide)]
  have b3 : bkA S1 = bkA S ∧ bkL S1 = bkL S := ⟨funext fun i => ((hkW 0 0 0 0 (i + 1)).2.2 i (Nat.lt_succ_self i)).1, funext fun i => ((hkW 0 0 0 0 (i + 1)).2.2 i (Nat.lt_succ_self i)).2⟩
  refine ⟨⟨hE, (i3 _ (by decide)).trans h2, (i3 _ (by decide)).trans h3, ⟨⟨c01, (i3 _ (by decide)).trans c02, c03, c04, fun i hi => by rw [hsA _ (by decide) (by decide)]; exact c05 i hi⟩, ⟨(i3 _ (by decide)).trans c11, c12⟩, ⟨i6, by show X 2 + 1 ≤ dp + 1; omega, fun _ => ⟨by show 1 ≤ X 2 + 1; omega, hon, ?_, ?_, Nat.le_refl _⟩⟩, ⟨tr', (i3 _ (by decide)).trans c31, c32, c33⟩, (i3 _ (by decide)).trans c4, (i3 _ (by decide)).trans c5, ⟨(i3 _ (by decide)).trans c61, c62⟩, ⟨(i3 _ (by decide)).trans c71, c72, (i3 _ (by decide)).trans c73, c74⟩, ⟨by
    rw [b3.1, b3.2]
    intro i hi
    obtain ⟨x, y, y1, y2, y3⟩ := c81 i hi
    exact ⟨x, y, by show x < X 2 + 1; omega, y2, y3⟩, c82⟩, ?_, c10⟩, zDf_W h5 (hkW 0 0 0 _ 0), h6, h7, (fun hz => by cases hz), h9, h10, h11, h12, h13⟩, hkW, hkA, i3, i6⟩
  · show sA S1 77 (X 2 + 1 - 1) = nI on
    rw [hs7, upd_at, if_pos (by omega)]
  · show sA S1 78 (X 2 + 1 - 1) = nI tr
    rw [hs8, upd_at, if_pos (by omega)]
  · exact zSc_go c9 id (scL_refl E sc) (fun i _ => by rw [hsA _ (by decide) (by decide)]) (fun i _ => by rw [hsA _ (by decide) (by decide)]) (fun i _ => by rw [hsA _ (by decide) (by decide), hsA _ (by decide) (by decide), hsA _ (by decide) (by decide)]; exact ⟨rfl, rfl, rfl⟩) (fun own st hr => hr)
end
