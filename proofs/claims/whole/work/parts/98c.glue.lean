/-! WHAT A RULE OF EXPR DOES IN THE CLASS: its outcome; jumps; one deeper -/
def rkp (t : Nat) : Nat := if t = 0 then 10 else if t = 2 then 9 else if t = 4 then 8 else if t = 5 then 7 else if t = 6 then 6 else if t = 8 then 5 else if t = 10 then 4 else if t = 11 then 3 else if t = 15 then 2 else if t = 13 ∨ t = 14 then 12 else 1
def jt (t : Nat) : Nat := if t = 0 then 57 else if t = 2 then 58 else if t = 4 then 59 else if t = 5 then 60 else if t = 6 then 61 else if t = 8 then 62 else if t = 10 then 63 else if t = 11 then 64 else 65
/-- there is room: from token k on -/
def RM (β : Nat → Nat) (n k e u a c f M Mc Mf : Nat) : Prop := ∃ N, BR β n N k ∧ a + 3 * (N - qP β n k) + u ≤ M ∧ M ≤ 40900 ∧ 2 * c + (N - qP β n k) + e ≤ 2 * Mc ∧ Mc ≤ 5190 ∧ 2 * f + (N - qP β n k) + e ≤ 2 * Mf ∧ Mf ≤ 1590
section
variable {A : Nat → Int32} {n z0 fb : Nat} {S0 : cS}
def eO (A : Nat → Int32) (n : Nat) (S0 : cS) (z0 fb : Nat) (S : cS) (a c f cur k M Mc Mf : Nat) (r : PR) (S1 : cS) : Prop := (r = none → eBD A n S0 z0 S a c f cur (qL (by1 A) n k) M Mc Mf S1) ∧ ∀ x, r = some x → eOK A n S0 z0 fb S a c f cur x.1 x.2.1 x.2.2 S1
theorem eO_none {S S1 : cS} {a c f cur k M Mc Mf : Nat} {r : PR} (hr : r = none) (h : eBD A n S0 z0 S a c f cur (qL (by1 A) n k) M Mc Mf S1) : eO A n S0 z0 fb S a c f cur k M Mc Mf r S1 := ⟨fun _ => h, fun x hx => by rw [hr] at hx; cases hx⟩
theorem eO_some {S S1 : cS} {a c f cur k M Mc Mf : Nat} {r : PR} {x : Nat × Nat × List Op} (hr : r = some x) (h : eOK A n S0 z0 fb S a c f cur x.1 x.2.1 x.2.2 S1) : eO A n S0 z0 fb S a c f cur k M Mc Mf r S1 := by
  refine ⟨fun hn => ?_, fun y hy => ?_⟩
  · rw [hr] at hn; cases hn
  · rw [hr] at hy
    injection hy with hy
    subst hy
    exact h
/-- nothing is put -/
theorem eOK_nil {S : cS} {a c f cur k g : Nat} (hP : cP A n S0 z0 k S) (hS : eS S a c f cur) (hc : c ≤ 5200) (hg : sI S 4403 = nI g) (htg : g ≠ 0 → sI S 4404 = nI (a - tl1 g)) : eOK A n S0 z0 fb S a c f cur k g [] S := by
  obtain ⟨z, z1, z2, z3, z4⟩ := cP_NT hP
  have hfx : fxN cur [] = 0 := by unfold fxN; split <;> rfl
  exact ⟨hP, by rw [hfx]; exact hS, ⟨z, c, z1, z2, hS.2.1, hc, trivial⟩, fun _ => trivial, ⟨FrT.refl _ _ _ _ _, ⟨fun _ _ => rfl, fun _ _ => ⟨rfl, rfl⟩, fun _ _ => ⟨rfl, rfl⟩⟩, cP_nK hP rfl (fun _ _ => rfl)⟩, hg, htg⟩
/-- the lexer goes on first -/
theorem eOK_pre {S S1 S2 : cS} {a c f cur k g : Nat} {os : List Op} (hF : FrT lxI lxJ [19, 20] [17, 18] S S1) (hn : nK S S1) (h : eOK A n S0 z0 fb S1 a c f cur k g os S2) : eOK A n S0 z0 fb S a c f cur k g os S2 :=
  ⟨h.1, h.2.1, h.2.2.1, h.2.2.2.1, xF_trans (xF_lx (a := a) (c := c) (f := f) hF hn) h.2.2.2.2.1 (Nat.le_refl _) (Nat.le_refl _) (Nat.le_refl _), h.2.2.2.2.2⟩
theorem eBD_pre {S S1 S2 : cS} {a c f cur l M Mc Mf : Nat} (hF : FrT lxI lxJ [19, 20] [17, 18] S S1) (hn : nK S S1) (h : eBD A n S0 z0 S1 a c f cur l M Mc Mf S2) : eBD A n S0 z0 S a c f cur l M Mc Mf S2 :=
  ⟨h.1, h.2.1, xF_trans (xF_lx (a := a) (c := c) (f := f) hF hn) h.2.2 (Nat.le_refl _) (Nat.le_refl _) (Nat.le_refl _)⟩
/-- the lexer goes on behind -/
theorem eOK_lx {S S1 S2 : cS} {a c f cur k k2 g : Nat} {os : List Op} (h : eOK A n S0 z0 fb S a c f cur k g os S1) (hc : c + cnN os ≤ 5200) (hP : cP A n S0 z0 k2 S2) (hF : FrT lxI lxJ [19, 20] [17, 18] S1 S2) (hn : nK S1 S2) : eOK A n S0 z0 fb S a c f cur k2 g os S2 := by
  obtain ⟨a1, a2, a3, a4, a5, a6, a7⟩ := h
  have hx : xF (a + wC os) (c + cnN os) (f + fxN cur os) S1 S2 := xF_lx hF hn
  refine ⟨hP, eS_lx hF a2, cd_mono a3 hx (Nat.le_refl _) a2.2.1 hc ((eS_lx hF a2).2.1) hc (Nat.le_refl _), fun hcur => ?_, xF_trans a5 hx (by omega) (by omega) (by omega), (hF.1 _ (by decide)).trans a6, fun hg => (hF.1 _ (by decide)).trans (a7 hg)⟩
  have e : fxN cur os = nmN os := if_neg hcur
  exact fxC_mono os f a hx.2.1.2.2 (by omega) (a4 hcur)
/-- it is a fault at once -/
theorem eBD_0 {S S1 : cS} {a c f cur l : Nat} (hB : cB A n S0 z0 l S1) (hS : eS S a c f cur) (hF : FrT lxI lxJ [19, 20] [17, 18] S S1) (hn : nK S S1) {M Mc Mf : Nat} (hM : a ≤ M) (hMc : c ≤ Mc) (hMf : f ≤ Mf) (ht : tgA S a a) : eBD A n S0 z0 S a c f cur l M Mc Mf S1 := by
  refine ⟨hB, ⟨a, c, f, eS_lx hF hS, Nat.le_refl _, hM, Nat.le_refl _, hMc, Nat.le_refl _, hMf, ?_⟩, xF_lx hF hn⟩
  unfold tgA
  rw [hF.1 4403 (by decide), hF.1 4404 (by decide), hF.2.2.1 24 (by decide)]
  exact ht
theorem jmp_op {K : Nat → Nat} {op : Nat} {o : List Op} (h : op = 6 ∨ op = 7) : lC (jmp K op o) = 2 ∧ nmO (jmp K op o) = 0 ∧ cnO (jmp K op o) = 0 := by
  rcases h with rfl | rfl <;> exact ⟨rfl, rfl, rfl⟩
/-- and, or: the jump, what is behind it -/
theorem jmp_ok {S S1 S3 : cS} {a c f cur k1 g1 op : Nat} {o1 : List Op} (hop : op = 6 ∨ op = 7) (hF : FrT lxI lxJ [19, 20] [17, 18] S S1) (hn : nK S S1) (hc : c + cnN o1 ≤ 5200) (h : eOK A n S0 z0 fb (wI 2307 (nI (a + 2)) (wA 24 (a + 1) (nI 0) (wA 24 a (nI op) S1))) (a + 2) c f cur k1 g1 o1 S3) : eOK A n S0 z0 fb S a c f cur k1 0 (jmp (qK (by1 A) n) op o1 :: o1) (wI 4403 (nI 0) (wA 24 (a + 1) (nI (a + 2 + wC o1)) S3)) := by
  obtain ⟨a1, a2, a3, a4, a5, a6, a7⟩ := h
  obtain ⟨j1, j2, j3⟩ := jmp_op (K := qK (by1 A) n) (o := o1) hop
  have w1 : wC (jmp (qK (by1 A) n) op o1 :: o1) = 2 + wC o1 := by show lC _ + wC o1 = _; rw [j1]
  have w2 : cnN (jmp (qK (by1 A) n) op o1 :: o1) = cnN o1 := by show cnO _ + cnN o1 = _; rw [j3]; omega
  have w3 : nmN (jmp (qK (by1 A) n) op o1 :: o1) = nmN o1 := by show nmO _ + nmN o1 = _; rw [j2]; omega
  have w4 : fxN cur (jmp (qK (by1 A) n) op o1 :: o1) = fxN cur o1 := by unfold fxN; rw [w3]
  have hx : xF a c f S3 (wI 4403 (nI 0) (wA 24 (a + 1) (nI (a + 2 + wC o1)) S3)) := ⟨(FrT_wI (by decide) (FrT_wA (by decide) (FrT.refl _ _ _ _ _))), kP_w (fun i hi => by show upd (sA S3 24) (a + 1) _ i = _; exact if_neg (by omega)) rfl rfl rfl rfl, cP_nK a1 (by simp only [rI, rJI, rAI, rLI, rIJ, rIA, rJA, rLA, rIL, reduceIte, Nat.reduceEqDiff]) (fun _ _ => rfl)⟩
  have hP2 : xF a c f S1 (wI 2307 (nI (a + 2)) (wA 24 (a + 1) (nI 0) (wA 24 a (nI op) S1))) := by
    refine ⟨(FrT_wI (by decide) (FrT_wA (by decide) (FrT_wA (by decide) (FrT.refl _ _ _ _ _)))), kP_w (fun i hi => ?_) rfl rfl rfl rfl, ?_⟩
    · show upd (upd (sA S1 24) a (nI op)) (a + 1) (nI 0) i = _
      rw [upd_at, upd_at, if_neg (by omega), if_neg (by omega)]
    · obtain ⟨z, z1, q1, q2, q3, q4, q5⟩ := hn
      exact ⟨z1, z1, q2, (by simp only [rI, rJI, rAI, rLI, rIJ, rIA, rJA, rLA, rIL, reduceIte, Nat.reduceEqDiff, q2]), Nat.le_refl _, q4, fun _ _ => ⟨rfl, rfl⟩⟩
  obtain ⟨z, c', b1, b2, b3, b4, b5⟩ := a3
  refine ⟨cP_S a1 (fun i hi => ?_) (fun _ _ => rfl) (fun a ha => rAn _ _ _ (fun e => ?_)) (fun _ _ => rfl), ?_, ⟨z, c', (by simp only [rI, rJI, rAI, rLI, rIJ, rIA, rJA, rLA, rIL, reduceIte, Nat.reduceEqDiff, b1]), b2, (by simp only [rI, rJI, rAI, rLI, rIJ, rIA, rJA, rLA, rIL, reduceIte, Nat.reduceEqDiff, b3]), b4, ⟨⟨fun _ => ?_, fun h => ?_, fun h => ?_, fun _ => ⟨a + 2 + wC o1, if_pos rfl, ?_⟩, fun h => ?_, fun h => ?_, fun h => ?_, fun h => ?_⟩, ?_⟩⟩, fun hcur => ⟨fun h => absurd h (by rw [j2]; decide), ?_⟩, xF_trans (xF_trans (xF_trans (xF_lx (a := a) (c := c) (f := f) hF hn) hP2 (Nat.le_refl _) (Nat.le_refl _) (Nat.le_refl _)) a5 (by omega) (Nat.le_refl _) (Nat.le_refl _)) hx (Nat.le_refl _) (Nat.le_refl _) (Nat.le_refl _), rIe _ _ _, fun h => absurd rfl h⟩
  · have : ∀ i, i ∈ [3102, 3103, 3104, 3105, 3106, 3107, 3108, 3109, 3113, 1607] → i ≠ 4403 := by decide
    exact rIn _ _ (this i hi)
  · subst e
    exact absurd ha (by decide)
  · rw [w1, w2, w4]
    exact ⟨by rw [rIn _ _ (by decide), rAI, a2.1]; exact congrArg nI (by omega), by rw [rIn _ _ (by decide), rAI, a2.2.1], by rw [rIn _ _ (by decide), rAI, a2.2.2.1], by rw [rIn _ _ (by decide), rAI, a2.2.2.2.1], a2.2.2.2.2⟩
  · show upd (sA S3 24) (a + 1) _ a = nI (tgC op)
    rw [upd_at, if_neg (by omega), a5.2.1.1 a (by omega)]
    show upd (upd (sA S1 24) a (nI op)) (a + 1) (nI 0) a = _
    rw [upd_at, upd_at, if_neg (by omega), if_pos rfl, tgC_id (t := op) (by omega)]
  · exfalso; have h2 : op = 16 ∨ op = 63 := h; omega
  · exfalso; have h2 : 18 ≤ op ∧ op ≤ 21 := h; omega
  · show ((a + 2 + wC o1 : Nat) : Int) = (a : Int) + ((2 + wC o1 : Nat) : Int)
    omega
  · exfalso; have h2 : 44 ≤ op ∧ op ≤ 48 := h; omega
  · exfalso; have h2 : op = 1 ∨ op = 2 ∨ op = 3 ∨ op = 13 ∨ op = 15 ∨ op = 24 ∨ op = 49 ∨ op = 50 ∨ op = 51 := h; omega
  · exfalso; have h2 : op = 22 := h; omega
  · exfalso; have h2 : op = 23 := h; omega
  · rw [j1]
    exact lsC_mono (S := S3) o1 (a + 2) (hi := a + 2 + wC o1) ⟨Nat.le_refl _, Nat.le_refl _, fun i h1 h2 => by show upd (sA S3 24) (a + 1) _ i = _; exact if_neg (by omega), fun _ _ => ⟨rfl, rfl⟩, fun _ _ => ⟨rfl, rfl⟩⟩ (Nat.le_refl _) b5
  · rw [j1, j2]
    exact fxC_mono (S := S3) o1 f (a + 2) (hi := f + nmN o1) (fun _ _ => ⟨rfl, rfl⟩) (Nat.le_refl _) (a4 hcur)
theorem jmp_bad {S S1 S3 : cS} {a b c f cur op l M Mc Mf : Nat} (hF : FrT lxI lxJ [19, 20] [17, 18] S S1) (hn : nK S S1) (h : eBD A n S0 z0 (wI 2307 (nI (a + 2)) (wA 24 (a + 1) (nI 0) (wA 24 a (nI op) S1))) (a + 2) c f cur l M Mc Mf S3) : eBD A n S0 z0 S a c f cur l M Mc Mf (wI 4403 (nI 0) (wA 24 (a + 1) (nI b) S3)) := by
  obtain ⟨b1, ⟨x, y, w, b2, b3, b4, b5, b6, b7, b8, b10⟩, b9⟩ := h
  have hP2 : xF a c f S1 (wI 2307 (nI (a + 2)) (wA 24 (a + 1) (nI 0) (wA 24 a (nI op) S1))) := by
    refine ⟨(FrT_wI (by decide) (FrT_wA (by decide) (FrT_wA (by decide) (FrT.refl _ _ _ _ _)))), kP_w (fun i hi => ?_) rfl rfl rfl rfl, ?_⟩
    · show upd (upd (sA S1 24) a (nI op)) (a + 1) (nI 0) i = _
      rw [upd_at, upd_at, if_neg (by omega), if_neg (by omega)]
    · obtain ⟨z, z1, q1, q2, q3, q4, q5⟩ := hn
      exact ⟨z1, z1, q2, (by simp only [rI, rJI, rAI, rLI, rIJ, rIA, rJA, rLA, rIL, reduceIte, Nat.reduceEqDiff, q2]), Nat.le_refl _, q4, fun _ _ => ⟨rfl, rfl⟩⟩
  have hx : xF a c f S3 (wI 4403 (nI 0) (wA 24 (a + 1) (nI b) S3)) := ⟨(FrT_wI (by decide) (FrT_wA (by decide) (FrT.refl _ _ _ _ _))), kP_w (fun i hi => by show upd (sA S3 24) (a + 1) _ i = _; exact if_neg (by omega)) rfl rfl rfl rfl, cB_nK b1 (by simp only [rI, rJI, rAI, rLI, rIJ, rIA, rJA, rLA, rIL, reduceIte, Nat.reduceEqDiff]) (fun _ _ => rfl)⟩
  refine ⟨cB_S b1 (by simp only [rI, rJI, rAI, rLI, rIJ, rIA, rJA, rLA, rIL, reduceIte, Nat.reduceEqDiff]) (by simp only [rI, rJI, rAI, rLI, rIJ, rIA, rJA, rLA, rIL, reduceIte, Nat.reduceEqDiff]) (by simp only [rI, rJI, rAI, rLI, rIJ, rIA, rJA, rLA, rIL, reduceIte, Nat.reduceEqDiff]) (fun a ha => rAn _ _ _ (fun e => ?_)) (fun _ _ => rfl), ⟨x, y, w, ⟨(by simp only [rI, rJI, rAI, rLI, rIJ, rIA, rJA, rLA, rIL, reduceIte, Nat.reduceEqDiff, b2.1]), (by simp only [rI, rJI, rAI, rLI, rIJ, rIA, rJA, rLA, rIL, reduceIte, Nat.reduceEqDiff, b2.2.1]), (by simp only [rI, rJI, rAI, rLI, rIJ, rIA, rJA, rLA, rIL, reduceIte, Nat.reduceEqDiff, b2.2.2.1]), (by simp only [rI, rJI, rAI, rLI, rIJ, rIA, rJA, rLA, rIL, reduceIte, Nat.reduceEqDiff, b2.2.2.2.1]), b2.2.2.2.2⟩, by omega, b4, b5, b6, b7, b8, Or.inl (rIe _ _ _)⟩, xF_trans (xF_trans (xF_trans (xF_lx (a := a) (c := c) (f := f) hF hn) hP2 (Nat.le_refl _) (Nat.le_refl _) (Nat.le_refl _)) b9 (by omega) (Nat.le_refl _) (Nat.le_refl _)) hx (Nat.le_refl _) (Nat.le_refl _) (Nat.le_refl _)⟩
  subst e
  exact absurd ha (by decide)
/-- ahead of what is behind a jump -/
theorem jmp_pre {S1 : cS} {a c f cur k op : Nat} (hP : cP A n S0 z0 k S1) (hS : eS S1 a c f cur) : cP A n S0 z0 k (wI 2307 (nI (a + 2)) (wA 24 (a + 1) (nI 0) (wA 24 a (nI op) S1))) ∧ eS (wI 2307 (nI (a + 2)) (wA 24 (a + 1) (nI 0) (wA 24 a (nI op) S1))) (a + 2) c f cur := by
  refine ⟨cP_S hP (fun i hi => ?_) (fun _ _ => rfl) (fun b hb => ?_) (fun _ _ => rfl), rIe _ _ _, (by simp only [rI, rJI, rAI, rLI, rIJ, rIA, rJA, rLA, rIL, reduceIte, Nat.reduceEqDiff, hS.2.1]), (by simp only [rI, rJI, rAI, rLI, rIJ, rIA, rJA, rLA, rIL, reduceIte, Nat.reduceEqDiff, hS.2.2.1]), (by simp only [rI, rJI, rAI, rLI, rIJ, rIA, rJA, rLA, rIL, reduceIte, Nat.reduceEqDiff, hS.2.2.2.1]), hS.2.2.2.2⟩
  · have : ∀ i, i ∈ [3102, 3103, 3104, 3105, 3106, 3107, 3108, 3109, 3113, 1607] → i ≠ 2307 := by decide
    exact rIn _ _ (this i hi)
  · have : ∀ b, b ∈ [1, 19, 20] → b ≠ 24 := by decide
    exact (rAn _ _ _ (this b hb)).trans (rAn _ _ _ (this b hb))
/-- one deeper: goes behind a token -/
theorem deep_T {d k dp : Nat} {S : cS} (hX : pX A n S0 z0) (h : cP A n S0 z0 k S) (hk : 3 ≤ qK (by1 A) n k) (hd : dp < 12) : ∃ S1 v, Ans (d + 9) 74 [.ref 44, .int (nI dp)] S (some (.int (nI v))) S1 ∧ cP A n S0 z0 (k + 1) S1 ∧ FrT lxI lxJ [19, 20] [17, 18] S S1 ∧ nK S S1 ∧ (qK (by1 A) n (k + 1) = 0 → v = 0) ∧ (qK (by1 A) n (k + 1) ≠ 0 → v = 1) := by
  obtain ⟨S1, h1, h2, h3, h4⟩ := read_T (d := d + 3) hX h (by omega) (by omega) (by omega)
  have hk64 := (q_lt (by1 A) n (k + 1)).2.2.2.2
  by_cases h0 : qK (by1 A) n (k + 1) = 0
  · have h5 := cP_5 h2
    rw [h0] at h5
    exact ⟨S1, 0, Ans.of (by rw [ml_74]; exact Nat.le_of_ble_eq_true rfl) (Bod.lv (by rfl) (eDeep_no hd h1 h5)), h2, h3, h4, fun _ => rfl, fun h => absurd h0 h⟩
  · exact ⟨S1, 1, Ans.of (by rw [ml_74]; exact Nat.le_of_ble_eq_true rfl) (Bod.lv (by rfl) (eDeep_go (tk := qK (by1 A) n (k + 1)) hd h1 (cP_5 h2) (Nat.pos_of_ne_zero h0) hk64)), h2, h3, h4, fun h => absurd h h0, fun _ => rfl⟩
theorem deep_F {d k dp : Nat} {S : cS} (hX : pX A n S0 z0) (h0 : qK (by1 A) n 0 ≠ 1) (h : cP A n S0 z0 k S) (hd : 12 ≤ dp) (hd2 : dp ≤ 12) : ∃ S1, Ans (d + 9) 74 [.ref 44, .int (nI dp)] S (some (.int (nI 0))) S1 ∧ cB A n S0 z0 (qL (by1 A) n k) S1 ∧ FrT lxI lxJ [19, 20] [17, 18] S S1 ∧ nK S S1 := by
  obtain ⟨S1, h1, h2, h3, h4⟩ := fail_T (d := d + 7) hX h0 h
  exact ⟨S1, Ans.of (by rw [ml_74]; exact Nat.le_of_ble_eq_true rfl) (Bod.lv (by rfl) (eDeep_deep hd (by omega) h1 (read_B (d := d + 7) h2) h2.1)), h2, h3, h4⟩
end
theorem px_bad {K : Nat → Nat} {d k : Nat} (h : K k = 0) : ∀ F t a b, t ∈ [0, 2, 4, 5, 6, 8, 10, 11, 15] → px K F t d k a b = none := by
  intro F
  induction F with
  | zero => intro t a b _; rfl
  | succ F ih =>
    intro t a b ht
    simp only [List.mem_cons, List.not_mem_nil, or_false] at ht
    rcases ht with rfl | rfl | rfl | rfl | rfl | rfl | rfl | rfl | rfl
    · show pxL (px K F) 2 1 d k = none; unfold pxL; rw [ih 2 _ _ (by decide)]; rfl
    · show pxL (px K F) 4 3 d k = none; unfold pxL; rw [ih 4 _ _ (by decide)]; rfl
    · show pxU K (px K F) 59 25 4 5 d k = none; unfold pxU; rw [if_neg (by omega)]; exact ih 5 _ _ (by decide)
    · show px5 K (px K F) d k = none; unfold px5; rw [ih 6 _ _ (by decide)]; rfl
    · show pxL (px K F) 8 7 d k = none; unfold pxL; rw [ih 8 _ _ (by decide)]; rfl
    · show pxL (px K F) 10 9 d k = none; unfold pxL; rw [ih 10 _ _ (by decide)]; rfl
    · show pxU K (px K F) 16 26 10 11 d k = none; unfold pxU; rw [if_neg (by omega)]; exact ih 11 _ _ (by decide)
    · show pxL (px K F) 15 12 d k = none; unfold pxL; rw [ih 15 _ _ (by decide)]; rfl
    · show px15 K (px K F) d k = none
      unfold px15
      rw [if_neg (by omega), if_neg (by omega), if_neg (by omega), if_neg (by omega), if_neg (by omega)]
