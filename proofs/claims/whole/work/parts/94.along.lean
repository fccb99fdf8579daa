/-! THE CLASS ALONG THE ROW: at token k; its table of names grows by the row's names alone -/
def cT (β : Nat → Nat) (n : Nat) (S : cS) (z k : Nat) : Prop := sI S 3102 = nI n ∧ sI S 3106 = nI (qL β n k) ∧ (qK β n k = 1 → sI S 3105 = nI 1 ∧ sI S 3108 = Int32.ofInt (-1) ∧ sI S 3113 = nI 0) ∧ (qK β n k ≠ 1 → sI S 3107 = nI (qL β n k) ∧ sI S 3108 = nI (qI β n k) ∧ ct_tk β S z (qP β n k) (qK β n k, qE β n k) (qL β n k))
def cN (β : Nat → Nat) (n : Nat) (S0 : cS) (z0 : Nat) (S : cS) (z : Nat) : Prop := NTx S0 z0 S z ∧ ∀ i, z0 ≤ i → i < z → ∃ j, qK β n j = 3 ∧ nm_is S β (qP β n j) (qE β n j - qP β n j) i
/-- of a text: its bytes, the table of names ahead of it -/
def pX (A : Nat → Int32) (n : Nat) (S0 : cS) (z0 : Nat) : Prop := n ≤ 3000 ∧ 35 ≤ z0 ∧ Wd S0 ∧ (∀ S z, cN (by1 A) n S0 z0 S z → z < 4096)
/-- the class stands at token k -/
def cP (A : Nat → Int32) (n : Nat) (S0 : cS) (z0 k : Nat) (S : cS) : Prop := ∃ z, sA S 1 = A ∧ cT (by1 A) n S z k ∧ cN (by1 A) n S0 z0 S z
/-- names stay -/
def nK (S S1 : cS) : Prop := ∃ z z1, sI S 1607 = nI z ∧ sI S1 1607 = nI z1 ∧ z ≤ z1 ∧ z1 ≤ 4096 ∧ ∀ i, i < z → sL S1 17 i = sL S 17 i ∧ sL S1 18 i = sL S 18 i
theorem nK_trans {S S1 S2 : cS} (h : nK S S1) (g : nK S1 S2) : nK S S2 := by
  obtain ⟨z, z1, h1, h2, h3, h4, h5⟩ := h
  obtain ⟨y, y1, g1, g2, g3, g4, g5⟩ := g
  obtain rfl : z1 = y := nI_inj (by omega) (by omega) (h2.symm.trans g1)
  exact ⟨z, y1, h1, g2, by omega, g4, fun i hi => ⟨(g5 i (by omega)).1.trans (h5 i hi).1, (g5 i (by omega)).2.trans (h5 i hi).2⟩⟩
theorem nK_of {S S1 : cS} {z z1 : Nat} (h : c_NT S z) (g : NTx S z S1 z1) : nK S S1 := ⟨z, z1, h.1, g.2.1.1, g.1, g.2.1.2.1, g.2.2⟩
theorem NTx_trans {S S1 S2 : cS} {z z1 z2 : Nat} (h : NTx S z S1 z1) (g : NTx S1 z1 S2 z2) : NTx S z S2 z2 := ⟨Nat.le_trans h.1 g.1, g.2.1, fun i hi => ⟨(g.2.2 i (Nat.lt_of_lt_of_le hi h.1)).1.trans (h.2.2 i hi).1, (g.2.2 i (Nat.lt_of_lt_of_le hi h.1)).2.trans (h.2.2 i hi).2⟩⟩
theorem Wd_x {S S1 : cS} {z z1 : Nat} (hW : Wd S) (h24 : 24 ≤ z) (h : NTx S z S1 z1) : Wd S1 := fun q t hq => by
  have hq24 : q < 24 := by
    have := (List.getElem?_eq_some_iff.mp hq).1
    have hl : w_tx.length = 24 := rfl
    omega
  exact ⟨(h.2.2 q (by omega)).1.trans (hW q t hq).1, (h.2.2 q (by omega)).2.trans (hW q t hq).2⟩
/-- the table after one more token of the row -/
theorem cN_step {β : Nat → Nat} {n z0 z z1 k : Nat} {S0 S S1 : cS} (h : cN β n S0 z0 S z) (g : NTx S z S1 z1) (hx : z1 = z ∨ z1 = z + 1 ∧ qK β n k = 3 ∧ nm_is S1 β (qP β n k) (qE β n k - qP β n k) z) : cN β n S0 z0 S1 z1 := by
  refine ⟨NTx_trans h.1 g, fun i h0 h1 => ?_⟩
  have hold : ∀ i, z0 ≤ i → i < z → ∃ j, qK β n j = 3 ∧ nm_is S1 β (qP β n j) (qE β n j - qP β n j) i := fun i h0 h1 => by
    obtain ⟨j, h2, h3⟩ := h.2 i h0 h1
    exact ⟨j, h2, (g.2.2 i h1).1.trans h3.1, (g.2.2 i h1).2.trans h3.2⟩
  rcases hx with rfl | ⟨rfl, h2, h3⟩
  · exact hold i h0 h1
  · rcases Nat.lt_or_ge i z with h4 | h4
    · exact hold i h0 h4
    · obtain rfl : i = z := by omega
      exact ⟨k, h2, h3⟩
theorem cN_S {β : Nat → Nat} {n z0 z : Nat} {S0 S S1 : cS} (h : cN β n S0 z0 S z) (h1 : sI S1 1607 = sI S 1607) (h17 : sL S1 17 = sL S 17) (h18 : sL S1 18 = sL S 18) (h19 : sA S1 19 = sA S 19) (h20 : sA S1 20 = sA S 20) : cN β n S0 z0 S1 z := cN_step (k := 0) h (NTx_same h.1.2.1 h1 h17 h18 h19 h20) (Or.inl rfl)
theorem q_parts {β : Nat → Nat} {n k : Nat} (h : qK β n k ≠ 1) : (qK β n k, qE β n k) = tk β n (qP β n k) ∧ qP β n k ≤ n ∧ (qP β n k = n ∨ β (qP β n k) ≠ 32) ∧ 1 ≤ qL β n k := by
  have h1 := (tq_ok β n k).2.2.2.2.2.2 h
  exact ⟨Prod.ext h1.1 h1.2.1, (tq_ok β n k).1, h1.2.2.2.2, h1.2.2.1⟩
theorem q_lt (β : Nat → Nat) (n k : Nat) : qP β n k ≤ n ∧ qE β n k ≤ n ∧ qL β n k ≤ n + 1 ∧ qI β n k ≤ n ∧ qK β n k < 64 := by
  have h := tq_ok β n k
  refine ⟨h.1, h.2.2.1, h.2.2.2.1, h.2.2.2.2.1, ?_⟩
  by_cases h1 : qK β n k = 1
  · omega
  · have := (h.2.2.2.2.2.2 h1).1
    have h2 := tk_kind (β := β) (n := n) (p := qP β n k)
    have h3 : qK β n k = (tk β n (qP β n k)).1 := this
    omega
/-- the token behind one that ends no line -/
theorem q_next {β : Nat → Nat} {n k : Nat} (h1 : qK β n k ≠ 1) (h2 : qK β n k ≠ 2) : qP β n (k + 1) = t_skip β n (n - qE β n k) (qE β n k) ∧ qL β n (k + 1) = qL β n k ∧ qI β n (k + 1) = qI β n k ∧ qK β n (k + 1) ≠ 1 := by
  have e : tq β n (k + 1) = ((tk β n (t_skip β n (n - qE β n k) (qE β n k))).1, t_skip β n (n - qE β n k) (qE β n k), (tk β n (t_skip β n (n - qE β n k) (qE β n k))).2, qL β n k, qI β n k) := by
    show tq_nx β n (tq β n k) = _
    unfold tq_nx
    rw [if_neg (show ¬ (tq β n k).1 = 1 from h1), if_neg (show ¬ (tq β n k).1 = 2 from h2)]
    rfl
  unfold qP qL qI qK
  rw [e]
  exact ⟨rfl, rfl, rfl, tk_kind.1⟩
theorem cP_A {A : Nat → Int32} {n z0 k : Nat} {S0 S : cS} (h : cP A n S0 z0 k S) : sA S 1 = A := by
  obtain ⟨z, h1, _⟩ := h
  exact h1
theorem cP_5 {A : Nat → Int32} {n z0 k : Nat} {S0 S : cS} (h : cP A n S0 z0 k S) : sI S 3105 = nI (qK (by1 A) n k) := by
  obtain ⟨z, h1, h2, _⟩ := h
  by_cases hk : qK (by1 A) n k = 1
  · rw [hk]; exact (h2.2.2.1 hk).1
  · exact (h2.2.2.2 hk).2.2.1
theorem cP_6 {A : Nat → Int32} {n z0 k : Nat} {S0 S : cS} (h : cP A n S0 z0 k S) : sI S 3106 = nI (qL (by1 A) n k) := by
  obtain ⟨z, h1, h2, _⟩ := h
  exact h2.2.1
theorem cP_8 {A : Nat → Int32} {n z0 k : Nat} {S0 S : cS} (h : cP A n S0 z0 k S) : (qK (by1 A) n k = 1 → sI S 3108 = Int32.ofInt (-1)) ∧ (qK (by1 A) n k ≠ 1 → sI S 3108 = nI (qI (by1 A) n k)) := by
  obtain ⟨z, h1, h2, _⟩ := h
  exact ⟨fun hk => (h2.2.2.1 hk).2.1, fun hk => (h2.2.2.2 hk).2.1⟩
theorem cP_4 {A : Nat → Int32} {n z0 k : Nat} {S0 S : cS} (h : cP A n S0 z0 k S) (hk : qK (by1 A) n k ≠ 1) : sI S 3104 = nI (qP (by1 A) n k) := by
  obtain ⟨z, h1, h2, _⟩ := h
  exact (h2.2.2.2 hk).2.2.2.1
/-- no fault so far -/
theorem cP_13 {A : Nat → Int32} {n z0 k : Nat} {S0 S : cS} (h : cP A n S0 z0 k S) (hk : qK (by1 A) n k ≠ 0) : sI S 3113 = nI 0 := by
  obtain ⟨z, h1, h2, _⟩ := h
  by_cases hk1 : qK (by1 A) n k = 1
  · exact (h2.2.2.1 hk1).2.2
  · exact ((h2.2.2.2 hk1).2.2.2.2.2.1 hk).2
theorem cP_bad {A : Nat → Int32} {n z0 k : Nat} {S0 S : cS} (h : cP A n S0 z0 k S) (hk : qK (by1 A) n k = 0) : sI S 3105 = nI 0 ∧ sI S 3113 = nI (qL (by1 A) n k) := by
  obtain ⟨z, h1, h2, _⟩ := h
  have h3 := (h2.2.2.2 (by omega)).2.2
  refine ⟨?_, h3.2.2.1 hk⟩
  have := h3.1
  rw [hk] at this
  exact this
/-- what is seen of a state that differs elsewhere -/
theorem cP_S {A : Nat → Int32} {n z0 k : Nat} {S0 S S1 : cS} (h : cP A n S0 z0 k S) (hI : ∀ i, i ∈ [3102, 3103, 3104, 3105, 3106, 3107, 3108, 3109, 3113, 1607] → sI S1 i = sI S i) (hJ : ∀ i, i ∈ lxJ → sJ S1 i = sJ S i) (hA1 : ∀ a, a ∈ [1, 19, 20] → sA S1 a = sA S a) (hL : ∀ a, a ∈ [17, 18] → sL S1 a = sL S a) : cP A n S0 z0 k S1 := by
  obtain ⟨z, h1, h2, h3⟩ := h
  have e := fun i hi => hI i hi
  refine ⟨z, (hA1 1 (by decide)).trans h1, ?_, cN_S h3 (hI _ (by decide)) (hL _ (by decide)) (hL _ (by decide)) (hA1 _ (by decide)) (hA1 _ (by decide))⟩
  unfold cT ct_tk nm_is c_is
  rw [hI 3102 (by decide), hI 3103 (by decide), hI 3104 (by decide), hI 3105 (by decide), hI 3106 (by decide), hI 3107 (by decide), hI 3108 (by decide), hI 3109 (by decide), hI 3113 (by decide), hJ 3110 (by decide), hJ 3111 (by decide), hJ 3112 (by decide), hL 17 (by decide), hL 18 (by decide)]
  exact h2
theorem read_T {d n z0 k : Nat} {A : Nat → Int32} {S0 S : cS} (hX : pX A n S0 z0) (h : cP A n S0 z0 k S) (h0 : qK (by1 A) n k ≠ 0) (h1 : qK (by1 A) n k ≠ 1) (h2 : qK (by1 A) n k ≠ 2) : ∃ S1, Ans (d + 5) 40 [.ref 31] S none S1 ∧ cP A n S0 z0 (k + 1) S1 ∧ FrT lxI lxJ [19, 20] [17, 18] S S1 ∧ nK S S1 := by
  obtain ⟨z, hA, hT, hN⟩ := h
  obtain ⟨t1, t2, t3, t4⟩ := hT
  obtain ⟨u1, u2, u3⟩ := t4 h1
  obtain ⟨v1, v2, v3, v4, v5⟩ := u3
  obtain ⟨x1, x2⟩ := v4 h0
  have hlt := q_lt (by1 A) n k
  obtain ⟨n1, n2, n3, n4⟩ := q_next h1 h2
  obtain ⟨s1, s2, s3, s4⟩ := skip_at (β := by1 A) hlt.2.1
  rw [← n1] at s1 s2 s3 s4
  have hk1 : 1 ≤ qK (by1 A) n k := Nat.pos_of_ne_zero h0
  have hk2 : qK (by1 A) n k < 100 := Nat.lt_trans hlt.2.2.2.2 (by decide)
  have hz0 : 24 ≤ z0 := Nat.le_trans (by decide) hX.2.1
  have hz24 : 24 ≤ z := Nat.le_trans hz0 hN.1.1
  obtain ⟨S1, z1, hR, r1, r2, r3, r4⟩ := read_tk (d := d) (t := qK (by1 A) n k) hA hX.1 t1 v1 hk1 hk2 x1 s1 s2 s3 s4 t2 x2 hN.1.2.1 (hX.2.2.2 S z hN) hz24 (Wd_x hX.2.2.1 hz0 hN.1)
  obtain ⟨p1, p2, p3, p4⟩ := q_parts n4
  rw [← p1] at r1 r4
  refine ⟨S1, hR, ⟨z1, (r2.2.2.1 1 (by decide)).trans hA, ⟨(r2.1 _ (by decide)).trans t1, ?_, fun h => absurd h n4, fun _ => ⟨?_, ?_, ?_⟩⟩, cN_step hN r3 r4⟩, r2, nK_of hN.1.2.1 r3⟩
  · rw [n2]; exact (r2.1 _ (by decide)).trans t2
  · rw [n2]; exact (r2.1 _ (by decide)).trans u1
  · rw [n3]; exact (r2.1 _ (by decide)).trans u2
  · rw [n2]; exact r1
/-- the first token of a line -/
theorem line_T {d n z0 z p l last k1 : Nat} {A : Nat → Int32} {S0 S S2 : cS} (hX : pX A n S0 z0) (hN : cN (by1 A) n S0 z0 S z) (hA : sA S 1 = A) (hk1 : tq (by1 A) n k1 = tq_ln (by1 A) n p l last) (hp : p ≤ n) (hn : sI S 3102 = nI n) (h6 : sI S 3106 = nI last) (hf : sI S 3113 = nI 0) (hF : FrT [3103, 3105, 3106, 3107, 3108] [] [] [] S S2) (g1 : tl (by1 A) n (n + 1) p l = none → sI S2 3105 = nI 1 ∧ sI S2 3108 = Int32.ofInt (-1) ∧ sI S2 3106 = sI S 3106) (g2 : ∀ q l2 i, tl (by1 A) n (n + 1) p l = some (q, l2, i) → sI S2 3105 = nI 2 ∧ sI S2 3108 = nI i ∧ sI S2 3106 = nI l2 ∧ sI S2 3107 = nI l2 ∧ sI S2 3103 = nI q) : (sI S2 3105 = nI 1 ∧ cP A n S0 z0 k1 S2 ∧ nK S S2) ∨ (sI S2 3105 = nI 2 ∧ ∃ S3, Ans (d + 5) 40 [.ref 31] S2 none S3 ∧ cP A n S0 z0 k1 S3 ∧ FrT lxI lxJ [19, 20] [17, 18] S2 S3 ∧ nK S S3) := by
  have hN2 : cN (by1 A) n S0 z0 S2 z := cN_S hN (hF.1 _ (by decide)) (hF.2.2.2.1 _ (by decide)) (hF.2.2.2.1 _ (by decide)) (hF.2.2.1 _ (by decide)) (hF.2.2.1 _ (by decide))
  have hA2 : sA S2 1 = A := (hF.2.2.1 1 (by decide)).trans hA
  have hx2 : NTx S z S2 z := NTx_same hN.1.2.1 (hF.1 _ (by decide)) (hF.2.2.2.1 _ (by decide)) (hF.2.2.2.1 _ (by decide)) (hF.2.2.1 _ (by decide)) (hF.2.2.1 _ (by decide))
  cases htl : tl (by1 A) n (n + 1) p l with
  | none =>
    obtain ⟨a1, a2, a3⟩ := g1 htl
    have e : tq (by1 A) n k1 = (1, n, n, last, 0) := by rw [hk1]; unfold tq_ln; rw [htl]
    have eK : qK (by1 A) n k1 = 1 := by unfold qK; rw [e]
    have eL : qL (by1 A) n k1 = last := by unfold qL; rw [e]
    exact Or.inl ⟨a1, ⟨z, hA2, ⟨(hF.1 _ (by decide)).trans hn, by rw [eL, a3]; exact h6, fun _ => ⟨a1, a2, (hF.1 _ (by decide)).trans hf⟩, fun h => absurd eK h⟩, hN2⟩, nK_of hN.1.2.1 hx2⟩
  | some w =>
    obtain ⟨q, l2, i⟩ := w
    obtain ⟨a1, a2, a3, a4, a5⟩ := g2 q l2 i htl
    obtain ⟨b1, b2, b3, b4, b5, b6, b7, b8⟩ := tl_ok _ _ _ _ _ _ hp htl
    have e : tq (by1 A) n k1 = ((tk (by1 A) n q).1, q, (tk (by1 A) n q).2, l2, i) := by rw [hk1]; unfold tq_ln; rw [htl]
    have eK : qK (by1 A) n k1 = (tk (by1 A) n q).1 := by unfold qK; rw [e]
    have eP : qP (by1 A) n k1 = q := by unfold qP; rw [e]
    have eE : qE (by1 A) n k1 = (tk (by1 A) n q).2 := by unfold qE; rw [e]
    have eL : qL (by1 A) n k1 = l2 := by unfold qL; rw [e]
    have eI : qI (by1 A) n k1 = i := by unfold qI; rw [e]
    have n1 : qK (by1 A) n k1 ≠ 1 := by rw [eK]; exact tk_kind.1
    obtain ⟨S1, z1, hR, r1, r2, r3, r4⟩ := read_tk (d := d) (p := q) hA2 hX.1 ((hF.1 _ (by decide)).trans hn) a1 (by omega) (by omega) a5 (Nat.le_refl _) (by omega) (fun x h1 h2 => by omega) (Or.inr b5) a3 ((hF.1 _ (by decide)).trans hf) hN2.1.2.1 (hX.2.2.2 S2 z hN2) (by have := hN2.1.1; have := hX.2.1; omega) (Wd_x hX.2.2.1 (by have := hX.2.1; omega) hN2.1)
    refine Or.inr ⟨a1, S1, hR, ⟨z1, (r2.2.2.1 1 (by decide)).trans hA2, ⟨(r2.1 _ (by decide)).trans ((hF.1 _ (by decide)).trans hn), ?_, fun h => absurd h n1, fun _ => ⟨?_, ?_, ?_⟩⟩, cN_step (k := k1) hN2 r3 (by rw [eK, eP, eE]; exact r4)⟩, r2, nK_of hN.1.2.1 (NTx_trans hx2 r3)⟩
    · rw [eL]; exact (r2.1 _ (by decide)).trans a3
    · rw [eL]; exact (r2.1 _ (by decide)).trans a4
    · rw [eI]; exact (r2.1 _ (by decide)).trans a2
    · rw [eP, eK, eE, eL]; exact r1
theorem dc_36_0 : decode (sm_cc 36) 0 = .ok (.iconst 0, 1) := by decide +kernel
theorem dc_36_1 : decode (sm_cc 36) 1 = .ok (.istore_n 1, 1) := by decide +kernel
theorem findLine_of {d : Nat} {S S1 : cS} (h : Bod (d + 4) 36 2 [(1, .int (nI 0)), (0, .ref 31)] [] S none S1) : Ans (d + 5) 36 [.ref 31] S none S1 := by
  refine Ans.of (by rw [ml_36]; exact Nat.le_of_ble_eq_true rfl) ?_
  refine Bod.ic 0 (by decide) dc_36_0 ?_
  refine Bod.istn dc_36_1 (by rw [ml_36]; exact Nat.le_of_ble_eq_true rfl) ?_
  exact Bod.lv (by rfl) h
def lyI : List Nat := [3102, 3103, 3104, 3105, 3106, 3107, 3108, 3109, 3113, 1607]
theorem FrT_lx {S S1 : cS} (h : FrT lxI lxJ [19, 20] [17, 18] S S1) : FrT lyI lxJ [19, 20] [17, 18] S S1 := h.mono (by decide) (fun _ h => h) (fun _ h => h) (fun _ h => h)
theorem FrT_fl {S S1 : cS} (h : FrT [3103, 3105, 3106, 3107, 3108] [] [] [] S S1) : FrT lyI lxJ [19, 20] [17, 18] S S1 := h.mono (by decide) (fun _ h => by cases h) (fun _ h => by cases h) (fun _ h => by cases h)
theorem nextLine_T {d n z0 k : Nat} {A : Nat → Int32} {S0 S : cS} (hX : pX A n S0 z0) (h : cP A n S0 z0 k S) (h2 : qK (by1 A) n k = 2) : ∃ S1, Ans (d + 6) 86 [.ref 31] S none S1 ∧ cP A n S0 z0 (k + 1) S1 ∧ FrT lyI lxJ [19, 20] [17, 18] S S1 ∧ nK S S1 := by
  obtain ⟨z, hA, hT, hN⟩ := h
  obtain ⟨t1, t2, t3, t4⟩ := hT
  obtain ⟨u1, u2, u3⟩ := t4 (by omega)
  obtain ⟨v1, v2, v3, v4, v5⟩ := u3
  rw [h2] at v1
  obtain ⟨x1, x2⟩ := v4 (by dsimp only; omega)
  have hlt := q_lt (by1 A) n k
  have hE : qE (by1 A) n k = qP (by1 A) n k := by
    have h3 := (q_parts (β := by1 A) (n := n) (k := k) (by omega)).1
    have h4 := (tk_end (β := by1 A) hlt.1).2.2
    rw [← h3] at h4
    dsimp only at h4
    omega
  dsimp only at x1
  rw [hE] at x1
  obtain ⟨e1, e2, e3, e4⟩ := tk_eol_ok (β := by1 A) hlt.1
  obtain ⟨e, hee⟩ : ∃ e, tk_eol (by1 A) n (qP (by1 A) n k) = e := ⟨_, rfl⟩
  rw [hee] at e1 e2 e3 e4
  have hby : ∀ x, c_byte S x = by1 A x := fun x => by rw [c_byte_by, hA]
  have hx : ∀ x, qP (by1 A) n k ≤ x → x < e → c_byte S x ≠ 10 := fun x h1 h2 => by rw [hby]; exact e3 x h1 h2
  by_cases hen : e < n
  · have hk1 : tq (by1 A) n (k + 1) = tq_ln (by1 A) n (e + 1) (qL (by1 A) n k + 1) (qL (by1 A) n k) := by
      show tq_nx (by1 A) n (tq (by1 A) n k) = _
      unfold tq_nx
      rw [if_neg (show ¬ (tq (by1 A) n k).1 = 1 from by unfold qK at h2; omega), if_pos (show (tq (by1 A) n k).1 = 2 from h2), if_pos (show tk_eol (by1 A) n (tq (by1 A) n k).2.1 < n from by rw [show (tq (by1 A) n k).2.1 = qP (by1 A) n k from rfl, hee]; exact hen)]
      rw [show (tq (by1 A) n k).2.1 = qP (by1 A) n k from rfl, hee]
      rfl
    obtain ⟨S2, hB, hF, g1, g2⟩ := findLine_T (d := d + 1) hX.1 (n + 1) (e + 1) (qL (by1 A) n k + 1) 0 (wI 3107 (nI (qL (by1 A) n k + 1)) (wI 3103 (nI (e + 1)) (wI 3103 (nI e) S))) [(1, .int (nI 0)), (0, .ref 31)] (Or.inl rfl) (by omega) (by omega) (by omega) hA t1 (by simp only [rI, rJI, rAI, rLI, rIJ, rIA, rJA, rLA, rIL, reduceIte, Nat.reduceEqDiff]) (rIe _ _ _)
    have hF2 : Ans (d + 5) 36 [.ref 31] (wI 3107 (nI (qL (by1 A) n k + 1)) (wI 3103 (nI (e + 1)) (wI 3103 (nI e) S))) none S2 := findLine_of hB
    have hNS : cN (by1 A) n S0 z0 (wI 3107 (nI (qL (by1 A) n k + 1)) (wI 3103 (nI (e + 1)) (wI 3103 (nI e) S))) z := cN_S hN (by simp only [rI, rJI, rAI, rLI, rIJ, rIA, rJA, rLA, rIL, reduceIte, Nat.reduceEqDiff]) rfl rfl rfl rfl
    have hA' : sA (wI 3107 (nI (qL (by1 A) n k + 1)) (wI 3103 (nI (e + 1)) (wI 3103 (nI e) S))) 1 = A := hA
    have hnk : nK S (wI 3107 (nI (qL (by1 A) n k + 1)) (wI 3103 (nI (e + 1)) (wI 3103 (nI e) S))) := nK_of hN.1.2.1 (NTx_same hN.1.2.1 (by simp only [rI, rJI, rAI, rLI, rIJ, rIA, rJA, rLA, rIL, reduceIte, Nat.reduceEqDiff]) rfl rfl rfl rfl)
    have hfr : FrT lyI lxJ [19, 20] [17, 18] S (wI 3107 (nI (qL (by1 A) n k + 1)) (wI 3103 (nI (e + 1)) (wI 3103 (nI e) S))) := (FrT_wI (by decide) (FrT_wI (by decide) (FrT_wI (by decide) (FrT.refl _ _ _ _ _))))
    rcases line_T (d := d) (k1 := k + 1) hX hNS hA' hk1 (by omega) (by simp only [rI, rJI, rAI, rLI, rIJ, rIA, rJA, rLA, rIL, reduceIte, Nat.reduceEqDiff, t1]) (by simp only [rI, rJI, rAI, rLI, rIJ, rIA, rJA, rLA, rIL, reduceIte, Nat.reduceEqDiff, t2]) (by simp only [rI, rJI, rAI, rLI, rIJ, rIA, rJA, rLA, rIL, reduceIte, Nat.reduceEqDiff, x2]) hF g1 g2 with ⟨a1, a2, a3⟩ | ⟨a1, S3, a2, a3, a4, a5⟩
    · exact ⟨S2, nextLine_nl_end t1 x1 hX.1 u1 v1 e1 hx hen ((hby e).trans (e4.resolve_left (by omega))) hF2 a1 rfl, a2, hfr.trans (FrT_fl hF), nK_trans hnk a3⟩
    · exact ⟨S3, nextLine_nl_tok t1 x1 hX.1 u1 v1 e1 hx hen ((hby e).trans (e4.resolve_left (by omega))) hF2 a1 rfl a2, a3, hfr.trans ((FrT_fl hF).trans (FrT_lx a4)), nK_trans hnk a5⟩
  · have hk1 : tq (by1 A) n (k + 1) = (1, n, n, qL (by1 A) n k, 0) := by
      show tq_nx (by1 A) n (tq (by1 A) n k) = _
      unfold tq_nx
      rw [if_neg (show ¬ (tq (by1 A) n k).1 = 1 from by unfold qK at h2; omega), if_pos (show (tq (by1 A) n k).1 = 2 from h2), if_neg (show ¬ tk_eol (by1 A) n (tq (by1 A) n k).2.1 < n from by rw [show (tq (by1 A) n k).2.1 = qP (by1 A) n k from rfl, hee]; exact hen)]
      rfl
    have eK : qK (by1 A) n (k + 1) = 1 := by unfold qK; rw [hk1]
    have eL : qL (by1 A) n (k + 1) = qL (by1 A) n k := by unfold qL; rw [hk1]; rfl
    have hB := findLine_end (d := d + 1) (t := 0) (p := e) (q := n) (l := qL (by1 A) n k) (S := wI 3103 (nI e) S) hX.1 t1 (rIe _ _ _) (by simp only [rI, rJI, rAI, rLI, rIJ, rIA, rJA, rLA, rIL, reduceIte, Nat.reduceEqDiff, u1]) (by omega) (by omega) (fun x h1 h2 => by omega) rfl (Or.inl rfl)
    refine ⟨_, nextLine_en_end t1 x1 hX.1 u1 v1 e1 hx (by omega) (findLine_of hB) (by simp only [rI, rJI, rAI, rLI, rIJ, rIA, rJA, rLA, rIL, reduceIte, Nat.reduceEqDiff]) rfl, ⟨z, hA, ⟨(by simp only [rI, rJI, rAI, rLI, rIJ, rIA, rJA, rLA, rIL, reduceIte, Nat.reduceEqDiff, t1]), ?_, fun _ => ⟨(by simp only [rI, rJI, rAI, rLI, rIJ, rIA, rJA, rLA, rIL, reduceIte, Nat.reduceEqDiff]), (by simp only [rI, rJI, rAI, rLI, rIJ, rIA, rJA, rLA, rIL, reduceIte, Nat.reduceEqDiff]), (by simp only [rI, rJI, rAI, rLI, rIJ, rIA, rJA, rLA, rIL, reduceIte, Nat.reduceEqDiff, x2])⟩, fun h => absurd eK h⟩, cN_S hN (by simp only [rI, rJI, rAI, rLI, rIJ, rIA, rJA, rLA, rIL, reduceIte, Nat.reduceEqDiff]) rfl rfl rfl rfl⟩, (FrT_wI (by decide) (FrT_wI (by decide) (FrT_wI (by decide) (FrT_wI (by decide) (FrT.refl _ _ _ _ _))))), nK_of hN.1.2.1 (NTx_same hN.1.2.1 (by simp only [rI, rJI, rAI, rLI, rIJ, rIA, rJA, rLA, rIL, reduceIte, Nat.reduceEqDiff]) rfl rfl rfl rfl)⟩
    rw [eL]
    simp only [rI, reduceIte, Nat.reduceEqDiff]
    exact t2
