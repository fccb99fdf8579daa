/-! THE RULES OF EXPR IN THE CLASS: values; all of them -/
section
variable {A : Nat → Int32} {n z0 fb F : Nat} {S0 : cS}
theorem builtInOf_bi {d q : Nat} {S : cS} (h24 : 24 ≤ q) (hq : q < 4096) : Ans (d + 1) 70 [.int (nI q)] S (some (.int (nI (bi q)))) S := by
  unfold bi
  by_cases h : q < 34
  · rw [if_pos ⟨h24, h⟩]
    exact builtInOf_T h24 h
  · rw [if_neg (fun c => h c.2)]
    exact builtInOf_H (by omega) (by omega)
theorem nam_s (hX : pX A n S0 z0) {d k a c f cur : Nat} {S : cS} (hk : qK (by1 A) n k = 3) (hP : cP A n S0 z0 k S) (hS : eS S a c f cur) (ha : a + 4 ≤ 40960) (hc : c ≤ 5200) (hf : f < 1600) (h0 : sI S 4403 = nI 0) : ∃ S1, Ans (d + 9) 66 [.ref 44] S none S1 ∧ eOK A n S0 z0 fb S a c f cur (k + 1) (if qK (by1 A) n (k + 1) = 6 then 0 else 1) [((if qK (by1 A) n (k + 1) = 6 then 21 else 18), [k], 0, 0)] S1 := by
  obtain ⟨q, z, n1, n2, n3, n4, n5, n6⟩ := cP_name hP hk
  obtain ⟨S1, p1, p2, p3, p4⟩ := read_T (d := d + 3) hX hP (by omega) (by omega) (by omega)
  have hS1 := eS_lx p3 hS
  have hk64 := (q_lt (by1 A) n (k + 1)).2.2.2.2
  have h1 : sI S1 4403 = nI 0 := (p3.1 _ (by decide)).trans h0
  have hq : ∃ z, q < z ∧ sI S1 1607 = nI z ∧ z ≤ 4096 ∧ qn (by1 A) n S1 k q := by
    obtain ⟨w, w1, i1, i2, i3, i4, i5⟩ := p4
    obtain rfl : z = w := nI_inj (by omega) (by omega) (n4.symm.trans i1)
    exact ⟨w1, by omega, i2, i4, qn_mono n3 i5 n6⟩
  have hput : ∀ t : Nat, ∃ S2, Ans (d + 8) 67 [.ref 32, .int (nI t), .int (nI q)] S1 (some (.int (nI a))) S2 ∧ FrT [2307, 3214] [] [24, 41, 42] [] S1 S2 ∧ sA S2 24 = upd (upd (upd (sA S1 24) a (nI t)) (a + 1) (Int32.ofInt (-1))) (a + 2) (nI q) ∧ sI S2 2307 = nI (a + 3) ∧ (cur = 0 → sI S2 3214 = nI f ∧ sA S2 41 = sA S1 41 ∧ sA S2 42 = sA S1 42) ∧ (cur ≠ 0 → sI S2 3214 = nI (f + 1) ∧ sA S2 41 = upd (sA S1 41) f (nI a) ∧ sA S2 42 = upd (sA S1 42) f (nI cur)) := fun t => by
    by_cases hcur : cur = 0
    · subst hcur
      refine ⟨_, scPut_out (d := d + 5) hS1.1 (by omega) hS1.2.2.2.1, (FrT_wI (by decide) (FrT_wA (by decide) (FrT_wA (by decide) (FrT_wA (by decide) (FrT.refl _ _ _ _ _))))), rfl, (by simp only [rI, rJI, rAI, rLI, rIJ, rIA, rJA, rLA, rIL, reduceIte, Nat.reduceEqDiff]), fun _ => ⟨?_, rfl, rfl⟩, fun h => absurd rfl h⟩
      simp only [rI, rJI, rAI, rLI, reduceIte, Nat.reduceEqDiff]
      exact hS1.2.2.1
    · exact ⟨_, scPut_in (d := d + 5) hS1.1 (by omega) hS1.2.2.2.1 (by omega) hS1.2.2.2.2 hS1.2.2.1 hf, (FrT_wI (by decide) (FrT_wA (by decide) (FrT_wA (by decide) (FrT_wI (by decide) (FrT_wA (by decide) (FrT_wA (by decide) (FrT_wA (by decide) (FrT.refl _ _ _ _ _)))))))), rfl, (by simp only [rI, rJI, rAI, rLI, rIJ, rIA, rJA, rLA, rIL, reduceIte, Nat.reduceEqDiff]), fun h => absurd h hcur, fun _ => ⟨(by simp only [rI, rJI, rAI, rLI, rIJ, rIA, rJA, rLA, rIL, reduceIte, Nat.reduceEqDiff]), rfl, rfl⟩⟩
  by_cases h6 : qK (by1 A) n (k + 1) = 6
  · rw [if_pos h6, if_pos h6]
    obtain ⟨S2, t1, t2, t3, t4, t5, t6⟩ := hput 21
    have h5 := cP_5 p2
    rw [h6] at h5
    refine ⟨_, Ans.of (by rw [ml_66]; exact Nat.le_of_ble_eq_true rfl) (Bod.lv (by rfl) (eNam_call (d := d) n1 p1 h5 t1 (builtInOf_bi (d := d + 7) (by omega) (by omega)) t4 ha)), eOK_pre p3 p4 (opK p2 hS1 hc hq ?_ ?_ ?_ ?_ (by simp only [rI, rJI, rAI, rLI, rIJ, rIA, rJA, rLA, rIL, reduceIte, Nat.reduceEqDiff]) ?_ (fun h => ?_) (fun h => ?_) ?_)⟩
    · exact FrT_wI (by decide) (FrT_wA (by decide) (t2.mono (by decide) (fun _ h => by cases h) (by decide) (fun _ h => by cases h)))
    · exact t2.2.2.2.1 25 (by decide)
    · exact t2.2.2.2.1 26 (by decide)
    · show upd (sA S2 24) (a + 3) (nI (bi q)) = _
      rw [t3]
    · simp only [rI, rJI, rAI, rLI, reduceIte, Nat.reduceEqDiff]
      exact (t2.1 _ (by decide)).trans hS1.2.1
    · refine ⟨?_, (t5 h).2⟩
      simp only [rI, rJI, rAI, rLI, reduceIte, Nat.reduceEqDiff]
      exact (t5 h).1
    · refine ⟨?_, (t6 h).2⟩
      simp only [rI, rJI, rAI, rLI, reduceIte, Nat.reduceEqDiff]
      exact (t6 h).1
    · simp only [rI, rJI, rAI, rLI, reduceIte, Nat.reduceEqDiff]
      exact (t2.1 _ (by decide)).trans h1
  · rw [if_neg h6, if_neg h6]
    obtain ⟨S2, t1, t2, t3, t4, t5, t6⟩ := hput 18
    refine ⟨_, Ans.of (by rw [ml_66]; exact Nat.le_of_ble_eq_true rfl) (Bod.lv (by rfl) (eNam_load (d := d) n1 p1 (cP_5 p2) hk64 h6 t1)), eOK_pre p3 p4 (opN (g := 1) p2 hS1 hc (Or.inl rfl) hq ?_ ?_ ?_ ?_ ?_ ?_ (fun h => ?_) (fun h => ?_) (rIe _ _ _) (Or.inr rfl) (fun _ => (by simp only [rI, rJI, rAI, rLI, rIJ, rIA, rJA, rLA, rIL, reduceIte, Nat.reduceEqDiff])))⟩
    · exact FrT_wI (by decide) (FrT_wI (by decide) (t2.mono (by decide) (fun _ h => by cases h) (by decide) (fun _ h => by cases h)))
    · exact t2.2.2.2.1 25 (by decide)
    · exact t2.2.2.2.1 26 (by decide)
    · exact t3
    · simp only [rI, rJI, rAI, rLI, reduceIte, Nat.reduceEqDiff]
      exact t4
    · simp only [rI, rJI, rAI, rLI, reduceIte, Nat.reduceEqDiff]
      exact (t2.1 _ (by decide)).trans hS1.2.1
    · refine ⟨?_, (t5 h).2⟩
      simp only [rI, rJI, rAI, rLI, reduceIte, Nat.reduceEqDiff]
      exact (t5 h).1
    · refine ⟨?_, (t6 h).2⟩
      simp only [rI, rJI, rAI, rLI, reduceIte, Nat.reduceEqDiff]
      exact (t6 h).1
theorem cst_s (hX : pX A n S0 z0) {d k a c f cur : Nat} {S : cS} (hk : 3 ≤ qK (by1 A) n k) (hP : cP A n S0 z0 k S) (hS : eS S a c f cur) (ha : a + 2 ≤ 40960) (hc : c < 5200) (h0 : sI S 4403 = nI 0) : ∃ S1, Ans (d + 9) 72 [.ref 44, .long (cvH (by1 A) n k), .long (cvL (by1 A) n k)] S none S1 ∧ eOK A n S0 z0 fb S a c f cur (k + 1) 0 [(16, [k], 0, 0)] S1 := by
  have hop := opC (fb := fb) (kc := k) hP hS hc h0
  obtain ⟨S1, p1, p2, p3, p4⟩ := read_T (d := d + 3) hX hop.1 (by omega) (by omega) (by omega)
  exact ⟨S1, Ans.of (by rw [ml_72]; exact Nat.le_of_ble_eq_true rfl) (Bod.lv (by rfl) (eCst (d := d) hS.1 hS.2.1 ha hc p1)), eOK_lx hop (by show c + (1 + 0) ≤ 5200; omega) p2 p3 p4⟩
theorem t0_x {S : cS} {a c f k : Nat} (hP : cP A n S0 z0 k S) : xF a c f S (wI 4403 (nI 0) S) ∧ cP A n S0 z0 k (wI 4403 (nI 0) S) := by
  refine ⟨⟨(FrT_wI (by decide) (FrT.refl _ _ _ _ _)), kP_w (fun _ _ => rfl) rfl rfl rfl rfl, cP_nK hP (by simp only [rI, rJI, rAI, rLI, rIJ, rIA, rJA, rLA, rIL, reduceIte, Nat.reduceEqDiff]) (fun _ _ => rfl)⟩, cP_S hP (fun i hi => ?_) (fun _ _ => rfl) (fun _ _ => rfl) (fun _ _ => rfl)⟩
  have : ∀ i, i ∈ [3102, 3103, 3104, 3105, 3106, 3107, 3108, 3109, 3113, 1607] → i ≠ 4403 := by decide
  exact rIn _ _ (this i hi)
theorem xF_OK {S T S1 : cS} {a c f cur k g : Nat} {os : List Op} (hx : xF a c f S T) (h : eOK A n S0 z0 fb T a c f cur k g os S1) : eOK A n S0 z0 fb S a c f cur k g os S1 := ⟨h.1, h.2.1, h.2.2.1, h.2.2.2.1, xF_trans hx h.2.2.2.2.1 (Nat.le_refl _) (Nat.le_refl _) (Nat.le_refl _), h.2.2.2.2.2⟩
theorem xF_BD {S T S1 : cS} {a c f cur l M Mc Mf : Nat} (hx : xF a c f S T) (h : eBD A n S0 z0 T a c f cur l M Mc Mf S1) : eBD A n S0 z0 S a c f cur l M Mc Mf S1 := ⟨h.1, h.2.1, xF_trans hx h.2.2 (Nat.le_refl _) (Nat.le_refl _) (Nat.le_refl _)⟩
theorem xF_O {S T S1 : cS} {a c f cur k M Mc Mf : Nat} {r : PR} (hx : xF a c f S T) (h : eO A n S0 z0 fb T a c f cur k M Mc Mf r S1) : eO A n S0 z0 fb S a c f cur k M Mc Mf r S1 := ⟨fun hr => xF_BD hx (h.1 hr), fun x hr => xF_OK hx (h.2 x hr)⟩
theorem cst_vals {S : cS} {k : Nat} (hP : cP A n S0 z0 k S) : (qK (by1 A) n k = 4 → cvH (by1 A) n k = 2305843009213693952 ∧ cvL (by1 A) n k = sJ S 3110) ∧ (qK (by1 A) n k = 5 → cvH (by1 A) n k = sJ S 3111 ∧ cvL (by1 A) n k = sJ S 3112) ∧ (qK (by1 A) n k = 61 → cvH (by1 A) n k = 1152921504606846976 ∧ cvL (by1 A) n k = 0) ∧ (qK (by1 A) n k = 62 → cvH (by1 A) n k = 2305843009213693952 ∧ cvL (by1 A) n k = 1) ∧ (qK (by1 A) n k = 63 → cvH (by1 A) n k = 2305843009213693952 ∧ cvL (by1 A) n k = 0) := by
  obtain ⟨z, h1, h2, h3⟩ := hP
  have h4 := h2.2.2.2
  unfold cvH cvL
  refine ⟨fun h => ?_, fun h => ?_, fun h => ?_, fun h => ?_, fun h => ?_⟩
  · have h5 := (h4 (by omega)).2.2.2.2.2.2.2.1 h
    rw [if_neg (by omega), if_neg (by omega), if_pos h]
    exact ⟨rfl, h5.symm⟩
  · have h5 := (h4 (by omega)).2.2.2.2.2.2.2.2 h
    rw [if_neg (by omega), if_pos h, if_neg (by omega), if_pos h]
    exact ⟨h5.1.symm, h5.2.symm⟩
  · rw [if_pos h, if_neg (by omega), if_neg (by omega), if_neg (by omega)]
    exact ⟨rfl, rfl⟩
  · rw [if_neg (by omega), if_neg (by omega), if_neg (by omega), if_neg (by omega), if_pos h]
    exact ⟨rfl, rfl⟩
  · rw [if_neg (by omega), if_neg (by omega), if_neg (by omega), if_neg (by omega), if_neg (by omega)]
    exact ⟨rfl, rfl⟩
theorem EA15_s (hX : pX A n S0 z0) (h0 : qK (by1 A) n 0 ≠ 1) (hA : EA A n S0 z0 fb F) (hL : EL A n S0 z0 fb F) (hQ : EQ A n S0 z0 fb F) : EA1 A n S0 z0 fb (F + 1) 15 := by
  intro d k S a c f cur D M Mc Mf hd hm hP hS hR hD
  obtain ⟨N, hBR, r1, r2, r3, r4, r5, r6⟩ := hR
  have hBa := BR_at hBR
  have et : rkp 15 = 2 := rfl
  have et0 : rkp 0 = 10 := rfl
  obtain ⟨D', rfl⟩ : ∃ D', D = D' + 10 := ⟨D - 10, by omega⟩
  have hq := q_lt (by1 A) n k
  have hn := hX.1
  obtain ⟨hx, hP0⟩ := t0_x (a := a) (c := c) (f := f) hP
  have hS0 : eS (wI 4403 (nI 0) S) a c f cur := ⟨(by simp only [rI, rJI, rAI, rLI, rIJ, rIA, rJA, rLA, rIL, reduceIte, Nat.reduceEqDiff, hS.1]), (by simp only [rI, rJI, rAI, rLI, rIJ, rIA, rJA, rLA, rIL, reduceIte, Nat.reduceEqDiff, hS.2.1]), (by simp only [rI, rJI, rAI, rLI, rIJ, rIA, rJA, rLA, rIL, reduceIte, Nat.reduceEqDiff, hS.2.2.1]), (by simp only [rI, rJI, rAI, rLI, rIJ, rIA, rJA, rLA, rIL, reduceIte, Nat.reduceEqDiff, hS.2.2.2.1]), hS.2.2.2.2⟩
  have hT0 : sI (wI 4403 (nI 0) S) 4403 = nI 0 := rIe _ _ _
  have hat : tgA (wI 4403 (nI 0) S) a a := Or.inl hT0
  have h5 := cP_5 hP
  show ∃ S1, Ans (D' + 10) 65 [.ref 44, .int (nI d)] S none S1 ∧ eO A n S0 z0 fb S a c f cur k M Mc Mf (px15 (qK (by1 A) n) (px (qK (by1 A) n) F) d k) S1
  unfold px15
  by_cases k3 : qK (by1 A) n k = 3
  · rw [if_pos k3]
    obtain ⟨g1, g2, g3, g4, g5, g6⟩ := q_gt (β := by1 A) (n := n) (k := k) (by omega)
    have hB1 := BR_1 (N := N) (k := k) (by assumption) (by omega) (by omega)
    have hb1 := BR_at hB1
    rw [k3] at h5
    obtain ⟨S1, p1, p2⟩ := nam_s (fb := fb) (d := D') hX k3 hP0 hS0 (by omega) (by omega) (by omega) hT0
    exact ⟨S1, Ans.of (by rw [ml_65]; exact Nat.le_of_ble_eq_true rfl) (Bod.lv (by rfl) (eAtm_name (d := D' + 1) h5 p1)), eO_some rfl (xF_OK hx p2)⟩
  rw [if_neg k3]
  by_cases kc : qK (by1 A) n k = 4 ∨ qK (by1 A) n k = 5 ∨ qK (by1 A) n k = 61 ∨ qK (by1 A) n k = 62 ∨ qK (by1 A) n k = 63
  · rw [if_pos kc]
    obtain ⟨g1, g2, g3, g4, g5, g6⟩ := q_gt (β := by1 A) (n := n) (k := k) (by omega)
    have hB2 := BR_1 (N := N) (k := k) (by assumption) (by omega) (by omega)
    have hb2 := BR_at hB2
    obtain ⟨S1, p1, p2⟩ := cst_s (fb := fb) (d := D') hX (by omega) hP0 hS0 (by omega) (by omega) hT0
    obtain ⟨c4, c5, c61, c62, c63⟩ := cst_vals hP
    refine ⟨S1, Ans.of (by rw [ml_65]; exact Nat.le_of_ble_eq_true rfl) (Bod.lv (by rfl) ?_), eO_some rfl (xF_OK hx p2)⟩
    rcases kc with h | h | h | h | h
    · rw [(c4 h).1, (c4 h).2] at p1
      rw [h] at h5
      exact eAtm_4 (d := D' + 1) h5 p1
    · rw [(c5 h).1, (c5 h).2] at p1
      rw [h] at h5
      exact eAtm_5 (d := D' + 1) h5 p1
    · rw [(c61 h).1, (c61 h).2] at p1
      rw [h] at h5
      exact eAtm_61 (d := D' + 1) h5 p1
    · rw [(c62 h).1, (c62 h).2] at p1
      rw [h] at h5
      exact eAtm_62 (d := D' + 1) h5 p1
    · rw [(c63 h).1, (c63 h).2] at p1
      rw [h] at h5
      exact eAtm_63 (d := D' + 1) h5 p1
  rw [if_neg kc]
  by_cases k6 : qK (by1 A) n k = 6
  · rw [if_pos k6]
    obtain ⟨g1, g2, g3, g4, g5, g6⟩ := q_gt (β := by1 A) (n := n) (k := k) (by omega)
    have hB3 := BR_1 (N := N) (k := k) (by assumption) (by omega) (by omega)
    have hb3 := BR_at hB3
    rw [k6] at h5
    have hpb : ∀ {S2 : cS}, eBN A n S0 z0 S a c f cur (qL (by1 A) n k) M Mc Mf S2 → ∃ S3, Ans (D' + 9) 75 [.ref 31, .int (nI 7)] S2 none S3 ∧ eBD A n S0 z0 S a c f cur (qL (by1 A) n k) M Mc Mf (wI 4403 (nI 0) S3) := fun {S2} hb2 => by
      obtain ⟨S3, t1, t2, t3, t4⟩ := pass_B (d := D' + 7) hb2.1 (t := 7) (by omega) (by omega)
      have h6 := eBN_lx hb2 t2 t3 t4
      obtain ⟨b, c1, c2, c3⟩ := eBN_top h6
      exact ⟨S3, t1, eBN_x (w := 0) h6 c1 (by omega) (by omega) (Nat.le_refl _) (FrT_wI (by decide) (FrT.refl _ _ _ _ _)) (fun _ _ => rfl) (by rw [rIn _ _ (by decide)]; exact c1) (fun _ => Or.inl (rIe _ _ _))⟩
    have hxN : ∀ {S2 : cS}, eBN A n S0 z0 (wI 4403 (nI 0) S) a c f cur (qL (by1 A) n k) M Mc Mf S2 → eBN A n S0 z0 S a c f cur (qL (by1 A) n k) M Mc Mf S2 := fun {S2} h => ⟨h.1, h.2.1, xF_trans hx h.2.2 (Nat.le_refl _) (Nat.le_refl _) (Nat.le_refl _)⟩
    by_cases hd12 : 12 ≤ d
    · rw [if_pos hd12]
      obtain ⟨S1, p1, p2, p3, p4⟩ := deep_F (d := D') (dp := d) hX h0 hP0 hd12 hd
      obtain ⟨S3, t1, t2⟩ := hpb (hxN (eBN_0 p2 hS0 p3 p4 (by omega) (by omega) (by omega)))
      exact ⟨_, Ans.of (by rw [ml_65]; exact Nat.le_of_ble_eq_true rfl) (Bod.lv (by rfl) (eAtm_parno (d := D' + 1) h5 p1 t1)), eO_none rfl t2⟩
    · rw [if_neg hd12]
      obtain ⟨S1, v, p1, p2, p3, p4, p5, p6⟩ := deep_T (d := D') (dp := d) hX hP0 (by omega) (by omega)
      have hS1 := eS_lx p3 hS0
      by_cases hk0 : qK (by1 A) n (k + 1) = 0
      · rw [p5 hk0] at p1
        have hb2 := cP_B hX p2 hk0
        rw [g5] at hb2
        rw [px_bad hk0 F 0 0 0 (by decide)]
        obtain ⟨S3, t1, t2⟩ := hpb (hxN (eBN_0 hb2 hS0 p3 p4 (by omega) (by omega) (by omega)))
        exact ⟨_, Ans.of (by rw [ml_65]; exact Nat.le_of_ble_eq_true rfl) (Bod.lv (by rfl) (eAtm_parno (d := D' + 1) h5 p1 t1)), eO_none rfl t2⟩
      · rw [p6 hk0] at p1
        obtain ⟨S2, q1, q2⟩ := hA 0 (by decide) (d + 1) (k + 1) S1 a c f cur (D' + 9) M Mc Mf (by omega) (by omega) p2 hS1 ⟨N, by assumption, by omega, r2, by omega, r4, by omega, r6⟩ (by omega)
        have q1' : Ans (D' + 9) 57 [.ref 44, .int (nI (d + 1))] S1 none S2 := q1
        cases hr : px (qK (by1 A) n) F 0 (d + 1) (k + 1) 0 0 with
        | none =>
          have hb := eBN_pre p3 p4 (eBD_N (q2.1 hr))
          rw [g5] at hb
          obtain ⟨S3, t1, t2⟩ := hpb (hxN hb)
          exact ⟨_, Ans.of (by rw [ml_65]; exact Nat.le_of_ble_eq_true rfl) (Bod.lv (by rfl) (eAtm_par (d := D' + 1) h5 p1 q1' t1)), eO_none rfl t2⟩
        | some r =>
          have hok := xF_OK hx (eOK_pre p3 p4 (q2.2 r hr))
          obtain ⟨u1, u2, u3, u4, u5⟩ := (px_G (qK (by1 A) n) F).1 0 (by decide) _ _ _ _ _ hr
          have hB4 := BR_px (N := N) (by assumption) hr (by omega) (by omega) u2
          have hb4 := BR_at hB4
          obtain ⟨v1, v2, v3, v4⟩ := q_run (by omega) u2
          have hq1 := q_lt (by1 A) n r.1
          have hfx := fxN_le cur r.2.2
          show ∃ S1, _ ∧ eO A n S0 z0 fb S a c f cur k M Mc Mf (if qK (by1 A) n r.1 = 7 then some (r.1 + 1, 0, r.2.2) else none) S1
          by_cases hk7 : qK (by1 A) n r.1 = 7
          · rw [if_pos hk7]
            obtain ⟨S3, t1, t2, t3, t4⟩ := pass_T (d := D' + 2) hX hok.1 hk7 (by omega)
            have hok2 := eOK_lx hok (by omega) t2 t3 t4
            obtain ⟨hx3, hP3⟩ := t0_x (a := a + wC r.2.2) (c := c + cnN r.2.2) (f := f + fxN cur r.2.2) t2
            have hS3 := hok2.2.1
            have hnil : eOK A n S0 z0 fb S3 (a + wC r.2.2) (c + cnN r.2.2) (f + fxN cur r.2.2) cur (r.1 + 1) 0 [] (wI 4403 (nI 0) S3) := xF_OK hx3 (eOK_nil hP3 ⟨(by simp only [rI, rJI, rAI, rLI, rIJ, rIA, rJA, rLA, rIL, reduceIte, Nat.reduceEqDiff, hS3.1]), (by simp only [rI, rJI, rAI, rLI, rIJ, rIA, rJA, rLA, rIL, reduceIte, Nat.reduceEqDiff, hS3.2.1]), (by simp only [rI, rJI, rAI, rLI, rIJ, rIA, rJA, rLA, rIL, reduceIte, Nat.reduceEqDiff, hS3.2.2.1]), (by simp only [rI, rJI, rAI, rLI, rIJ, rIA, rJA, rLA, rIL, reduceIte, Nat.reduceEqDiff, hS3.2.2.2.1]), hS3.2.2.2.2⟩ (by omega) (rIe _ _ _) (fun h => absurd rfl h))
            have hfin := eOK_app hok2 hnil (by show _ + 0 ≤ _; omega)
            rw [List.append_nil] at hfin
            exact ⟨_, Ans.of (by rw [ml_65]; exact Nat.le_of_ble_eq_true rfl) (Bod.lv (by rfl) (eAtm_par (d := D' + 1) h5 p1 q1' t1)), eO_some rfl hfin⟩
          · rw [if_neg hk7]
            obtain ⟨S3, t1, t2, t3, t4⟩ := pass_F (d := D' + 7) (t := 7) hX h0 hok.1 hk7 (by omega)
            rw [v2, g5] at t2
            have hb := eON_bad (M := M) (Mc := Mc) (Mf := Mf) (eOK_N hok) t2 t3 t4 (by omega) (by omega) (by omega)
            obtain ⟨b, c1, c2, c3⟩ := eBN_top hb
            exact ⟨_, Ans.of (by rw [ml_65]; exact Nat.le_of_ble_eq_true rfl) (Bod.lv (by rfl) (eAtm_par (d := D' + 1) h5 p1 q1' t1)), eO_none rfl (eBN_x (w := 0) hb c1 (by omega) (by omega) (Nat.le_refl _) (FrT_wI (by decide) (FrT.refl _ _ _ _ _)) (fun _ _ => rfl) (by rw [rIn _ _ (by decide)]; exact c1) (fun _ => Or.inl (rIe _ _ _)))⟩
  rw [if_neg k6]
  by_cases k8 : qK (by1 A) n k = 8
  · rw [if_pos k8]
    obtain ⟨g1, g2, g3, g4, g5, g6⟩ := q_gt (β := by1 A) (n := n) (k := k) (by omega)
    have hB5 := BR_1 (N := N) (k := k) (by assumption) (by omega) (by omega)
    have hb5 := BR_at hB5
    rw [k8] at h5
    have hM := EM_s hX h0 hL (show 1 ≤ F by omega)
    obtain ⟨S1, v, p1, p2⟩ := hM d k _ a c f cur (D' + 9) (M - 2) Mc Mf 9 (Or.inr rfl) hd (by omega) (by omega) hP0 hS0 ⟨N, by assumption, by omega, by omega, by omega, r4, by omega, r6⟩ (by omega)
    obtain ⟨S2, t1, t2, t3⟩ := made_ok (d := D' + 6) (t := 49) ⟨by omega, r4⟩ (by omega) (fun x hx => by
      split at hx
      · cases hx
      · obtain ⟨u1, u2, u3, u4, u5⟩ := (px_G (qK (by1 A) n) F).2.2.2.1 _ _ _ _ _ (by omega) hx
        have hB6 := BR_px (N := N) (by assumption) hx (by omega) (by omega) u2
        have hb6 := BR_at hB6
        obtain ⟨v1, v2, v3, v4⟩ := q_run (by omega) u2
        have hq1 := q_lt (by1 A) n x.1
        exact ⟨by omega, by omega⟩) p2
    refine ⟨S2, Ans.of (by rw [ml_65]; exact Nat.le_of_ble_eq_true rfl) (Bod.lv (by rfl) (eAtm_list (d := D' + 1) h5 p1 t1)), ?_⟩
    by_cases hd12 : 12 ≤ d
    · rw [if_pos hd12] at t2 ⊢
      exact eO_none rfl (eBD_le (xF_BD hx (t2 rfl)) (by omega) (Nat.le_refl _) (Nat.le_refl _))
    · rw [if_neg hd12] at t2 t3 ⊢
      cases hr : px (qK (by1 A) n) F 13 (d + 1) (k + 1) 0 9 with
      | none => exact eO_none rfl (eBD_le (xF_BD hx (t2 hr)) (by omega) (Nat.le_refl _) (Nat.le_refl _))
      | some x => exact eO_some (x := (x.1, 0, x.2.2 ++ [(49, [x.2.1], 0, 0)])) rfl (xF_OK hx (t3 x hr))
  rw [if_neg k8]
  by_cases k10 : qK (by1 A) n k = 10
  · rw [if_pos k10]
    obtain ⟨g1, g2, g3, g4, g5, g6⟩ := q_gt (β := by1 A) (n := n) (k := k) (by omega)
    have hB7 := BR_1 (N := N) (k := k) (by assumption) (by omega) (by omega)
    have hb7 := BR_at hB7
    rw [k10] at h5
    have hM := EN_s hX h0 hQ (show 1 ≤ F by omega)
    obtain ⟨S1, v, p1, p2⟩ := hM d k _ a c f cur (D' + 9) (M - 2) Mc Mf hd (by omega) (by omega) hP0 hS0 ⟨N, by assumption, by omega, by omega, by omega, r4, by omega, r6⟩ (by omega)
    obtain ⟨S2, t1, t2, t3⟩ := made_ok (d := D' + 6) (t := 50) ⟨by omega, r4⟩ (by omega) (fun x hx => by
      split at hx
      · cases hx
      · obtain ⟨u1, u2, u3, u4, u5⟩ := (px_G (qK (by1 A) n) F).2.2.2.2.1 _ _ _ _ _ hx
        have hB8 := BR_px (N := N) (by assumption) hx (by omega) (by omega) u2
        have hb8 := BR_at hB8
        obtain ⟨v1, v2, v3, v4⟩ := q_run (by omega) u2
        have hq1 := q_lt (by1 A) n x.1
        exact ⟨by omega, by omega⟩) p2
    refine ⟨S2, Ans.of (by rw [ml_65]; exact Nat.le_of_ble_eq_true rfl) (Bod.lv (by rfl) (eAtm_dict (d := D' + 1) h5 p1 t1)), ?_⟩
    by_cases hd12 : 12 ≤ d
    · rw [if_pos hd12] at t2 ⊢
      exact eO_none rfl (eBD_le (xF_BD hx (t2 rfl)) (by omega) (Nat.le_refl _) (Nat.le_refl _))
    · rw [if_neg hd12] at t2 t3 ⊢
      cases hr : px (qK (by1 A) n) F 14 (d + 1) (k + 1) 0 0 with
      | none => exact eO_none rfl (eBD_le (xF_BD hx (t2 hr)) (by omega) (Nat.le_refl _) (Nat.le_refl _))
      | some x => exact eO_some (x := (x.1, 0, x.2.2 ++ [(50, [x.2.1], 0, 0)])) rfl (xF_OK hx (t3 x hr))
  rw [if_neg k10]
  obtain ⟨S1, p1, p2, p3, p4⟩ := fail_T (d := D' + 8) hX h0 hP0
  exact ⟨S1, Ans.of (by rw [ml_65]; exact Nat.le_of_ble_eq_true rfl) (Bod.lv (by rfl) (eAtm_no (d := D' + 1) h5 hq.2.2.2.2 k3 (fun e => kc (Or.inl e)) (fun e => kc (Or.inr (Or.inl e))) k6 k8 k10 (fun e => kc (Or.inr (Or.inr (Or.inl e)))) (fun e => kc (Or.inr (Or.inr (Or.inr (Or.inl e))))) (fun e => kc (Or.inr (Or.inr (Or.inr (Or.inr e))))) p1)), eO_none rfl (xF_BD hx (eBD_0 p2 hS0 p3 p4 (by omega) (by omega) (by omega) hat))⟩
/-- ALL RULES OF EXPR in the class -/
theorem EX_all (hX : pX A n S0 z0) (h0 : qK (by1 A) n 0 ≠ 1) : ∀ F, EA A n S0 z0 fb F ∧ EJ A n S0 z0 fb F 1 57 7 9 lv1 ∧ EJ A n S0 z0 fb F 3 58 7 8 lv1 ∧ EJ A n S0 z0 fb F 7 61 7 5 lv1 ∧ EJ A n S0 z0 fb F 9 62 18 4 lv9 ∧ EJ A n S0 z0 fb F 12 64 9 2 lv12 ∧ EL A n S0 z0 fb F ∧ EQ A n S0 z0 fb F := by
  intro F
  induction F with
  | zero =>
    refine ⟨fun t ht d k S a c f cur D M Mc Mf _ hm => by omega, ?_, ?_, ?_, ?_, ?_, fun d k S a c f cur D M Mc Mf fd b _ _ hm => by omega, fun d k S a c f cur D M Mc Mf fd _ hm => by omega⟩
    all_goals exact fun d k S a c f cur D M Mc Mf g lv tt _ _ hm => by omega
  | succ F ih =>
    obtain ⟨hA, h1, h3, h7, h9, h12, hL, hQ⟩ := ih
    refine ⟨fun t ht => ?_, EJ1_s hX h0 hA h1, EJ3_s hX h0 hA h3, EJ7_s hX h0 hA h7, EJ9_s hX h0 hA h9, EJ12_s hX h0 hA hL h12, EL_s hX h0 hA hL, EQ_s hX h0 hA hQ⟩
    simp only [List.mem_cons, List.not_mem_nil, or_false] at ht
    rcases ht with rfl | rfl | rfl | rfl | rfl | rfl | rfl | rfl | rfl
    · exact EA0_s hX h0 hA h1
    · exact EA2_s hX h0 hA h3
    · exact EA4_s hX h0 hA
    · exact EA5_s hX h0 hA
    · exact EA6_s hX h0 hA h7
    · exact EA8_s hX h0 hA h9
    · exact EA10_s hX h0 hA
    · exact EA11_s hX h0 hA h12
    · exact EA15_s hX h0 hA hL hQ
end
