/-! A WHOLE LINE of the reference is the row's tokens up to the line's end -/
theorem vp_at (f : Nat → Int64) (k : Nat) (x : Int64) (j : Nat) : vp_updL f k x j = if j = k then x else f j := rfl
section
variable {A : Nat → Int32} {n z gn0 N : Nat} {bj : Nat → Nat} {V W : Nat → Int64} {own0 : Nat → Nat × Nat} {S0 S : cS}
theorem rS_wL {k a : Nat} {x : Int64} (h : rS A n bj V W z own0 S0 gn0 N k S) (ha : a = 71 ∨ a = 72) : rS A n bj V W z own0 S0 gn0 N k (wL a k x S) := by
  obtain ⟨own, nn, g0, g1, g3, g4, g5, gn, hR, hgn, hnn, hft, hNM, hO, ht, hall, hF, h107, hmu, hlen⟩ := h
  obtain ⟨q1, q2, q3, q4, q5, q6, k0, k1, k3, k4, k5, qn, o64, o0, o1, o3, o4, o5⟩ := id hR
  have hne : ∀ g, (own g).1 ≠ 0 → g ≠ a := fun g hg e => hg (by rw [e]; exact own_67 hO (by omega))
  refine ⟨own, nn, g0, g1, g3, g4, g5, gn, ⟨q1, q2, q3, q4, q5, q6, isK_S rfl k0, isK_S rfl k1, isK_S rfl k3, isK_S rfl k4, isK_S rfl k5, qn, o64, o0, o1, o3, o4, o5⟩, hgn, hnn, hft, NMv_S hNM rfl rfl rfl (rLn _ _ _ (hne g4 (by rw [o4]; decide))) (rLn _ _ _ (hne g5 (by rw [o5]; decide))) (rLn _ _ _ (by omega)) (rLn _ _ _ (by omega)), hO, ht, fun j hj => ?_, ⟨hF.1, hF.2.1, hF.2.2.1, hF.2.2.2.1, hF.2.2.2.2.1, hF.2.2.2.2.2.1, fun b hb h1 h2 => ?_, hF.2.2.2.2.2.2.2⟩, h107, hmu, hlen⟩
  · obtain ⟨r1, r2, r3, r4, r5, r6, r7, r8, r9⟩ := hall j hj
    have e : ∀ b, sL (wL a k x S) b j = sL S b j := fun b => by
      by_cases hb : b = a
      · rw [hb, rLe, vp_at, if_neg (by omega)]
      · rw [rLn _ _ _ hb]
    exact ⟨r1, r2, r3, r4, r5, r6, fun h => (e 71).trans (r7 h), fun h => ⟨(e 71).trans (r8 h).1, (e 72).trans (r8 h).2⟩, r9⟩
  · have hba : b ≠ a := fun e => h2 (by rw [e]; rcases ha with rfl | rfl <;> decide)
    rw [rLn _ _ _ hba]
    exact hF.2.2.2.2.2.2.1 b hb h1 h2
theorem rS_name {d fr M k : Nat} (h : rS A n bj V W z own0 S0 gn0 N k S) (hN : N < 100000) (h86 : ∀ p t, p < 1500 → sQ S0 86 p = some t → 108 ≤ t) (hn : n ≤ 3000) (hfr : fr + M ≤ n) (hM1 : 1 ≤ M) (hM2 : M ≤ 12) (hfA : ∀ i, i < n → fits .byte (.int (A i)) = true) (hb : ∀ i, i < M → by1 A (fr + i) < 128) : ∃ S' r, Ans (d + 8) 294 [.ref 61, .ref 107, .int (nI fr), .int (nI M)] S (some (.int (nI r))) S' ∧ rS A n bj V W z own0 S0 gn0 (N + 1) k S' ∧ ∀ nn g0 g1, sI S' 6102 = nI nn → nn ≤ N + 1 → sV S' 6100 = .ref g0 → sV S' 6101 = .ref g1 → r < nn ∧ rnH S' g0 g1 r = e_H (fun i => by1 A (fr + i)) M ∧ rnL S' g0 g1 r = e_L (fun i => by1 A (fr + i)) M := by
  obtain ⟨own, nn, g0, g1, g3, g4, g5, gn, hR, hgn, hnn, hft, hNM, hO, ht, hall, hF, h107, hmu, hlen⟩ := h
  obtain ⟨S', own', nn', h0, h1, h3, h4, h5, gn', r, hA, hR', hNM', hr, eH, eL, hFO, hown, hmu', hlen', hg, hft', hn', hold⟩ := nm_rv (d := d) (fr := fr) (M := M) (f := fun i => by1 A (fr + i)) hM1 hM2 (by omega) (fun i hi => ⟨hb i hi, by rw [h107 _ (by omega)]; exact by_eq (hfA _ (by omega)) rfl (hb i hi)⟩) hR (by omega) hft hNM hO
  have hQ0 : sQ S = sQ S0 := hF.2.1
  have hO' : OW own' S' := OW_O hO hFO (by decide) hown (by rw [hQ0]; exact h86)
  have eA : ∀ a, (67 ≤ a ∧ a ≤ 72 ∨ a = 107) → sA S' a = sA S a := fun a ha => OW_A hO hFO (by decide) (Or.inr (by omega))
  have eL' : ∀ a, (67 ≤ a ∧ a ≤ 72 ∨ a = 107) → sL S' a = sL S a := fun a ha => OW_L hO hFO (by decide) (Or.inr (by omega))
  obtain ⟨w1, w2, w3, w4, w5, w6, w7⟩ := hFO
  obtain ⟨f1, f2, f3, f4, ⟨l0, f5⟩, f6, f7, f8⟩ := hF
  obtain ⟨l1, w5⟩ := w5
  have hnn2 : nn ≤ nn' := by omega
  have hlS : 108 + (sS S0).length ≤ 108 + (sS S).length := by rw [f5, List.length_append]; omega
  refine ⟨S', r, hA, ⟨own', nn', h0, h1, h3, h4, h5, gn', hR', by omega, by omega, hft', hNM', hO', by rw [w3 6112 (by decide)]; exact ht, fun j hj => ?_, ⟨w1.trans f1, w2.trans f2, fun i hi => (w3 i (fun e => hi (by simp only [List.mem_cons, List.not_mem_nil, or_false] at e; rw [e]; decide))).trans (f3 i hi), fun i hi => (w4 i hi).trans (f4 i hi), ⟨l0 ++ l1, by rw [w5, f5, List.append_assoc]⟩, fun a ha b1 b2 => (w6 a (by omega) (by rw [f8 a ha]; exact b1)).trans (f6 a ha b1 b2), fun a ha b1 b2 => (w7 a (by omega) (by rw [f8 a ha]; exact b1)).trans (f7 a ha b1 b2), fun a ha => (hown a (by omega)).trans (f8 a ha)⟩, fun i hi => by rw [eA 107 (by omega)]; exact h107 i hi, by omega, by omega⟩, fun mm a0 a1 e1 e2 e3 e4 => ?_⟩
  · obtain ⟨r1, r2, r3, r4, r5, r6, r7, r8, r9, r10⟩ := hall j hj
    unfold rTk
    rw [eA 67 (by omega), eA 68 (by omega), eA 69 (by omega), eA 70 (by omega), eL' 71 (by omega), eL' 72 (by omega)]
    refine ⟨r1, r2, r3, fun h => ?_, r5, r6, r7, r8, r9, r10⟩
    obtain ⟨q, c1, c2, c3, c4⟩ := r4 h
    exact ⟨q, Nat.lt_of_lt_of_le c1 hnn2, c2, by rw [(hold q c1).1]; exact c3, by rw [(hold q c1).2]; exact c4⟩
  · obtain ⟨q1, q2, q3, _⟩ := id hR'
    have x0 : a0 = h0 := by rw [q2] at e3; injection e3 with e; exact e.symm
    have x1 : a1 = h1 := by rw [q3] at e4; injection e4 with e; exact e.symm
    have xn : mm = nn' := nI_inj (by omega) (by omega) (e1.symm.trans q1)
    subst x0 x1 xn
    exact ⟨hr, eH, eL⟩
def LXq (A : Nat → Int32) (n : Nat) (bj : Nat → Nat) (V W : Nat → Int64) (z : Nat) (own0 : Nat → Nat × Nat) (S0 : cS) (gn0 N0 d e l bl p k : Nat) (S : cS) : Prop := ∃ S1 k1, (∀ lv, LG6 lv e l bl p → Bod (d + 8) 288 3 lv [] S none S1) ∧ k ≤ k1 ∧ (∀ j, j < k1 → qK (by1 A) n j ≠ 1) ∧ rS A n bj V W z own0 S0 gn0 (N0 + k1) k1 S1 ∧ qK (by1 A) n k1 = 2 ∧ tk_eol (by1 A) n (qP (by1 A) n k1) = e ∧ qL (by1 A) n k1 = l ∧ qI (by1 A) n k1 = bl
/-- a token begins here -/
def LC (A : Nat → Int32) (n : Nat) (bj : Nat → Nat) (V W : Nat → Int64) (z : Nat) (own0 : Nat → Nat × Nat) (S0 : cS) (gn0 N0 e l bl p k : Nat) (S : cS) : Prop := (n ≤ 3000) ∧ (∀ i, i < n → fits .byte (.int (A i)) = true) ∧ (N0 ≤ 60000) ∧ (e ≤ n) ∧ (e = n ∨ by1 A e = 10) ∧ (∀ i, p ≤ i → i < e → by1 A i ≠ 10) ∧ (∀ j, j < k → qK (by1 A) n j ≠ 1) ∧ (qK (by1 A) n k ≠ 1) ∧ (qL (by1 A) n k = l) ∧ (qI (by1 A) n k = bl) ∧ (rS A n bj V W z own0 S0 gn0 (N0 + k) k S) ∧ (p < e) ∧ (qP (by1 A) n k = p) ∧ (by1 A p ≠ 32) ∧ (by1 A p ≠ 35) ∧ (∀ p t, p < 1500 → sQ S0 86 p = some t → 108 ≤ t)
theorem LC.hn {N0 e l bl p k : Nat} (c : LC A n bj V W z own0 S0 gn0 N0 e l bl p k S) : n ≤ 3000 := c.1
theorem LC.hfA {N0 e l bl p k : Nat} (c : LC A n bj V W z own0 S0 gn0 N0 e l bl p k S) : ∀ i, i < n → fits .byte (.int (A i)) = true := c.2.1
theorem LC.hN0 {N0 e l bl p k : Nat} (c : LC A n bj V W z own0 S0 gn0 N0 e l bl p k S) : N0 ≤ 60000 := c.2.2.1
theorem LC.hen {N0 e l bl p k : Nat} (c : LC A n bj V W z own0 S0 gn0 N0 e l bl p k S) : e ≤ n := c.2.2.2.1
theorem LC.he10 {N0 e l bl p k : Nat} (c : LC A n bj V W z own0 S0 gn0 N0 e l bl p k S) : e = n ∨ by1 A e = 10 := c.2.2.2.2.1
theorem LC.hno {N0 e l bl p k : Nat} (c : LC A n bj V W z own0 S0 gn0 N0 e l bl p k S) : ∀ i, p ≤ i → i < e → by1 A i ≠ 10 := c.2.2.2.2.2.1
theorem LC.hj {N0 e l bl p k : Nat} (c : LC A n bj V W z own0 S0 gn0 N0 e l bl p k S) : ∀ j, j < k → qK (by1 A) n j ≠ 1 := c.2.2.2.2.2.2.1
theorem LC.hk1 {N0 e l bl p k : Nat} (c : LC A n bj V W z own0 S0 gn0 N0 e l bl p k S) : qK (by1 A) n k ≠ 1 := c.2.2.2.2.2.2.2.1
theorem LC.hL {N0 e l bl p k : Nat} (c : LC A n bj V W z own0 S0 gn0 N0 e l bl p k S) : qL (by1 A) n k = l := c.2.2.2.2.2.2.2.2.1
theorem LC.hI {N0 e l bl p k : Nat} (c : LC A n bj V W z own0 S0 gn0 N0 e l bl p k S) : qI (by1 A) n k = bl := c.2.2.2.2.2.2.2.2.2.1
theorem LC.hS {N0 e l bl p k : Nat} (c : LC A n bj V W z own0 S0 gn0 N0 e l bl p k S) : rS A n bj V W z own0 S0 gn0 (N0 + k) k S := c.2.2.2.2.2.2.2.2.2.2.1
theorem LC.hp {N0 e l bl p k : Nat} (c : LC A n bj V W z own0 S0 gn0 N0 e l bl p k S) : p < e := c.2.2.2.2.2.2.2.2.2.2.2.1
theorem LC.hq {N0 e l bl p k : Nat} (c : LC A n bj V W z own0 S0 gn0 N0 e l bl p k S) : qP (by1 A) n k = p := c.2.2.2.2.2.2.2.2.2.2.2.2.1
theorem LC.h32 {N0 e l bl p k : Nat} (c : LC A n bj V W z own0 S0 gn0 N0 e l bl p k S) : by1 A p ≠ 32 := c.2.2.2.2.2.2.2.2.2.2.2.2.2.1
theorem LC.h35 {N0 e l bl p k : Nat} (c : LC A n bj V W z own0 S0 gn0 N0 e l bl p k S) : by1 A p ≠ 35 := c.2.2.2.2.2.2.2.2.2.2.2.2.2.2.1
theorem LC.h86 {N0 e l bl p k : Nat} (c : LC A n bj V W z own0 S0 gn0 N0 e l bl p k S) : ∀ p t, p < 1500 → sQ S0 86 p = some t → 108 ≤ t := c.2.2.2.2.2.2.2.2.2.2.2.2.2.2.2
theorem rS_T {k : Nat} (h : rS A n bj V W z own0 S0 gn0 N k S) : (∀ i, i < n → sA S 107 i = A i) ∧ sI S 6112 = nI k := by
  obtain ⟨own, nn, g0, g1, g3, g4, g5, gn, hR, hgn, hnn, hft, hNM, hO, ht, hall, hF, h107, hmu, hlen⟩ := h
  exact ⟨h107, ht⟩
theorem rS_le {k N1 : Nat} (h : rS A n bj V W z own0 S0 gn0 N k S) (hN : N ≤ N1) : rS A n bj V W z own0 S0 gn0 N1 k S := by
  obtain ⟨own, nn, g0, g1, g3, g4, g5, gn, hR, hgn, hnn, hrest⟩ := h
  exact ⟨own, nn, g0, g1, g3, g4, g5, gn, hR, hgn, Nat.le_trans hnn hN, hrest⟩
variable {N0 e l bl p k d : Nat}
theorem lx_glue {S' : cS} {q : Nat} (h : LXq A n bj V W z own0 S0 gn0 N0 d e l bl q (k + 1) S') (g : ∀ S1, (∀ lv1, LG6 lv1 e l bl q → Bod (d + 8) 288 3 lv1 [] S' none S1) → ∀ lv, LG6 lv e l bl p → Bod (d + 8) 288 3 lv [] S none S1) : LXq A n bj V W z own0 S0 gn0 N0 d e l bl p k S := by
  obtain ⟨S1, k1, hB, hk, rest⟩ := h
  exact ⟨S1, k1, g S1 hB, by omega, rest⟩
/-- what a case may use: the line behind the token -/
def LCont (A : Nat → Int32) (n : Nat) (bj : Nat → Nat) (V W : Nat → Int64) (z : Nat) (own0 : Nat → Nat × Nat) (S0 : cS) (gn0 N0 d e l bl p k : Nat) : Prop := ∀ q S', p < q → q ≤ e → qE (by1 A) n k = q → qK (by1 A) n k ≠ 2 → rS A n bj V W z own0 S0 gn0 (N0 + (k + 1)) (k + 1) S' → LXq A n bj V W z own0 S0 gn0 N0 d e l bl q (k + 1) S'
theorem LC.tkq (c : LC A n bj V W z own0 S0 gn0 N0 e l bl p k S) : (qK (by1 A) n k, qE (by1 A) n k) = tk (by1 A) n p := by
  have := (q_parts c.hk1).1
  rw [c.hq] at this
  exact this
theorem LC.not0 (c : LC A n bj V W z own0 S0 gn0 N0 e l bl p k S) : ¬ (n ≤ p ∨ by1 A p = 10 ∨ by1 A p = 35) := by
  have h1 := c.hp
  have h2 := c.hen
  exact fun h => h.elim (fun h => by omega) (fun h => h.elim (c.hno p (Nat.le_refl _) c.hp) c.h35)
theorem LC.k6 (c : LC A n bj V W z own0 S0 gn0 N0 e l bl p k S) : k < 6002 := by
  have h1 := (q_idx c.hj).1
  have h2 := (q_lt (by1 A) n k).1
  have h3 := c.hn
  omega
theorem LC.tok {S' : cS} (c : LC A n bj V W z own0 S0 gn0 N0 e l bl p k S) {Sx : cS} {N : Nat} {kd : Nat} {vl : Int32} (hS : rS A n bj V W z own0 S0 gn0 N k Sx) (hN : N ≤ N0 + (k + 1)) (hS' : S' = wI 6112 (nI (k + 1)) (wA 70 k (nI bl) (wA 69 k (nI l) (wA 68 k vl (wA 67 k (nI kd) Sx))))) (hkd : kd = rkd (qK (by1 A) n k)) (hk2 : qK (by1 A) n k ≠ 2) (hn3 : qK (by1 A) n k = 3 → ∀ nn g0 g1, sI Sx 6102 = nI nn → nn ≤ N → sV Sx 6100 = .ref g0 → sV Sx 6101 = .ref g1 → ∃ r, r < nn ∧ vl = nI r ∧ rnH Sx g0 g1 r = e_H (fun i => by1 A (qP (by1 A) n k + i)) (qE (by1 A) n k - qP (by1 A) n k) ∧ rnL Sx g0 g1 r = e_L (fun i => by1 A (qP (by1 A) n k + i)) (qE (by1 A) n k - qP (by1 A) n k)) (h40 : 40 ≤ qK (by1 A) n k → vl = nI (qK (by1 A) n k - 40)) (h6 : 6 ≤ qK (by1 A) n k ∧ qK (by1 A) n k < 40 → vl = nI (rsg (qK (by1 A) n k))) (h4 : qK (by1 A) n k = 4 → sL Sx 71 k = lN (tk_val (by1 A) (qP (by1 A) n k) (qE (by1 A) n k - qP (by1 A) n k))) (h5 : qK (by1 A) n k = 5 → sL Sx 71 k = p_A (fun i => by1 A (qP (by1 A) n k + 1 + i)) (qE (by1 A) n k - qP (by1 A) n k - 2) ∧ sL Sx 72 k = p_B (fun i => by1 A (qP (by1 A) n k + 1 + i)) (qE (by1 A) n k - qP (by1 A) n k - 2)) : rS A n bj V W z own0 S0 gn0 (N0 + (k + 1)) (k + 1) S' := rS_le (rS_tok (vl := vl) (bl := nI bl) hS c.k6 (by rw [c.hL]; exact hS') hkd (Or.inr ⟨c.hk1, hk2, by rw [c.hI]⟩) hn3 h40 h6 h4 h5) hN
theorem tx_12 : ∀ t, t ∈ w_tx → tx_n t ≤ 12 := by decide +kernel
theorem tx_uq : ∀ q1, q1 < 24 → ∀ q2, q2 < 24 → tk_iswB (tx_c (w_tx.getD q1 0)) (tx_n (w_tx.getD q1 0)) (w_tx.getD q2 0) = true → q1 = q2 := by decide +kernel
theorem tx_mem {q t : Nat} (h : w_tx[q]? = some t) : t ∈ w_tx ∧ w_tx.getD q 0 = t := ⟨List.mem_of_getElem? h, by rw [List.getD_eq_getElem?_getD, h]; rfl⟩
theorem tx_lt51 : ∀ t, t ∈ w_tx → t < 51 := by decide +kernel
/-- names and words -/
theorem lx_name (c : LC A n bj V W z own0 S0 gn0 N0 e l bl p k S) (hLt : c_let (by1 A p) = true) (ct : LCont A n bj V W z own0 S0 gn0 N0 d e l bl p k) : LXq A n bj V W z own0 S0 gn0 N0 d e l bl p k S := by
  obtain ⟨hT, ht⟩ := rS_T c.hS
  have hp := c.hp
  have hen := c.hen
  have hn := c.hn
  have hk6 := c.k6
  have hN0 := c.hN0
  have hpn : p < n := by omega
  obtain ⟨r1, r2, r3⟩ := t_run_end (P := tk_al) (β := by1 A) (n := n) (p := p) (by omega)
  have hM1 : 1 ≤ t_run tk_al (by1 A) n (n - p) p := t_run_1 hpn (by unfold tk_al; rw [hLt]; rfl)
  have hMd : tk_nmN (by1 A) n p = t_run tk_al (by1 A) n (n - p) p := rfl
  have htk := c.tkq
  unfold tk at htk
  rw [if_neg c.not0, if_pos hLt, hMd] at htk
  generalize t_run tk_al (by1 A) n (n - p) p = M at *
  have hqe : p + M ≤ e := by
    rcases Nat.lt_or_ge e (p + M) with h | h
    · exfalso
      have h10 := r2 (e - p) (by omega)
      rw [show p + (e - p) = e by omega] at h10
      rcases c.he10 with h | h
      · omega
      · rw [h] at h10; exact absurd h10 (by decide)
    · exact h
  have hend : p + M = e ∨ tk_al (by1 A (p + M)) = false := r3.imp (fun h => by omega) id
  have hfp : fits .byte (.int (sA S 107 p)) = true := by rw [hT p hpn]; exact c.hfA p hpn
  have run : ∀ (Sf : cS) (v : Option Value) (lv : sm_L), (∀ lv1, LG8 lv1 e l bl (p + M) (sA S 107 p) p → Bod (d + 8) 288 81 lv1 [] S v Sf) → LG6 lv e l bl p → Bod (d + 8) 288 3 lv [] S v Sf := fun Sf v lv hB h => rl_let (by omega) (by omega) h.1 h.2.1 h.2.2.1 h.2.2.2.1 h.2.2.2.2.1 h.2.2.2.2.2 hp (by rw [hT p hpn]; exact by_ne c.h35 (by decide)) (by rw [hT p hpn]; exact by_ne c.h32 (by decide)) hfp (by rw [hT p hpn]; exact hLt) (fun lv1 a0 a1 a3 a4 a5 a6 a7 a8 => rl_run hn hen hT c.hfA hqe hend hB M p lv1 rfl ⟨⟨a0, a1, a3, a4, a5, a6⟩, a7, a8⟩ (fun i h1 h2 => by
    have := r2 (i - p) (by omega)
    rw [show p + (i - p) = i by omega] at this
    exact this))
  have hsub : p + M - p = M := by omega
  have h128 : ∀ i, i < M → by1 A (p + i) < 128 := fun i hi => let_128 (r2 i hi)
  have hval : ∀ i, i < M → sA S 107 (p + i) = nI (by1 A (p + i)) := fun i hi => by rw [hT _ (by omega)]; exact by_eq (c.hfA _ (by omega)) rfl (h128 i hi)
  have hwd : ∀ t, t ∈ w_tx → (r_word S 107 p M t ↔ tk_isw (fun i => by1 A (p + i)) M t) := fun t htm => by
    refine ⟨fun h => ⟨h.1, fun i hi => ?_⟩, fun h => ⟨h.1, fun i hi => ?_⟩⟩
    · have h1 := h.2 i hi
      rw [hval i hi] at h1
      have h2 := h128 i hi
      exact nI_inj (by show by1 A (p + i) < 2 ^ 31; omega) (Nat.lt_trans (tx_ok t (tx_lt51 t htm) i (by rw [← h.1]; exact hi)).2 (by decide)) h1
    · rw [hval i hi]
      exact congrArg nI (h.2 i hi)
  by_cases h12 : 12 < M
  · rw [if_pos h12] at htk
    have hk0 : qK (by1 A) n k = 0 := congrArg Prod.fst htk
    have hE : qE (by1 A) n k = p + M := congrArg Prod.snd htk
    have hW := wordOf_none (d := d + 2) (S := S) (ab := 107) (NB := 3000) (fr := p) (n := M) (mk_107 S) (by decide) (by omega) (fun t htm hr => by have := tx_12 t htm; have := hr.1; omega)
    exact lx_glue (ct (p + M) _ (by omega) hqe hE (by omega) (c.tok (kd := 8) (vl := nI 0) c.hS (by omega) rfl (by rw [hk0]; rfl) (by omega) (fun h => by omega) (fun h => by omega) (fun h => by omega) (fun h => by omega) (fun h => by omega))) (fun S1 hB lv h => run S1 none lv (fun lv1 h1 => rl_long (by omega) hqe h1.1.1 h1.1.2.1 h1.1.2.2.1 h1.1.2.2.2.1 h1.1.2.2.2.2.1 h1.1.2.2.2.2.2 h1.2.1 h1.2.2 (by omega) (by rw [hsub]; exact hW) (by omega) ht hk6 (fun lv2 a0 a1 a3 a4 a5 a6 => hB lv2 ⟨a0, a1, a3, a4, a5, a6⟩)) h)
  · rw [if_neg h12] at htk
    rcases tk_word_ok (fun i => by1 A (p + i)) M with ⟨hw, t, ht1, ht2⟩ | ⟨hw, hno⟩
    · rw [if_pos hw] at htk
      have hk0 : qK (by1 A) n k = 40 + tk_word (fun i => by1 A (p + i)) M := congrArg Prod.fst htk
      have hE : qE (by1 A) n k = p + M := congrArg Prod.snd htk
      obtain ⟨q, hq24, ⟨t2, hq1, hq2⟩, hA⟩ := wordOf_some (d := d + 2) (S := S) (ab := 107) (NB := 3000) (fr := p) (n := M) (mk_107 S) (by decide) (by omega) ⟨t, (tx_mem ht1).1, (hwd t (tx_mem ht1).1).mpr ht2⟩
      have hqw : q = tk_word (fun i => by1 A (p + i)) M := by
        refine tx_uq q hq24 _ hw ?_
        rw [(tx_mem hq1).2, (tx_mem ht1).2]
        have h3 := (hwd t2 (tx_mem hq1).1).mp hq2
        exact tk_isw_iff.mpr ⟨h3.1.symm.trans ht2.1, fun i hi => by
          have hi2 : i < M := by rw [h3.1]; exact hi
          exact (h3.2 i hi2).symm.trans (ht2.2 i hi2)⟩
      rw [← hqw] at hk0
      exact lx_glue (ct (p + M) _ (by omega) hqe hE (by omega) (c.tok (kd := 2) (vl := nI q) c.hS (by omega) rfl (by rw [hk0]; unfold rkd; rw [if_neg (by omega), if_neg (by omega), if_neg (by omega), if_neg (by omega), if_neg (by omega), if_neg (by omega), if_neg (by omega)]) (by omega) (fun h => by omega) (fun h => by rw [hk0, Nat.add_sub_cancel_left]) (fun h => by omega) (fun h => by omega) (fun h => by omega))) (fun S1 hB lv h => run S1 none lv (fun lv1 h1 => rl_word (by omega) hqe h1.1.1 h1.1.2.1 h1.1.2.2.1 h1.1.2.2.2.1 h1.1.2.2.2.2.1 h1.1.2.2.2.2.2 h1.2.1 h1.2.2 (by omega) (by rw [hsub]; exact hA) hq24 ht hk6 (fun lv2 a0 a1 a3 a4 a5 a6 => hB lv2 ⟨a0, a1, a3, a4, a5, a6⟩)) h)
    · rw [if_neg (by omega)] at htk
      have hk0 : qK (by1 A) n k = 3 := congrArg Prod.fst htk
      have hE : qE (by1 A) n k = p + M := congrArg Prod.snd htk
      have hW := wordOf_none (d := d + 2) (S := S) (ab := 107) (NB := 3000) (fr := p) (n := M) (mk_107 S) (by decide) (by omega) (fun t htm hr => hno t htm ((hwd t htm).mp hr))
      obtain ⟨S2, r, hA, hS2, hnm⟩ := rS_name (d := d) c.hS (by omega) c.h86 hn (by omega) hM1 (by omega) c.hfA h128
      have ht2 := (rS_T hS2).2
      refine lx_glue (ct (p + M) _ (by omega) hqe hE (by omega) (c.tok (kd := 1) (vl := nI r) hS2 (by omega) rfl (by rw [hk0]; rfl) (by omega) (fun h nn g0 g1 e1 e2 e3 e4 => ?_) (fun h => by omega) (fun h => by omega) (fun h => by omega) (fun h => by omega))) (fun S1 hB lv h => run S1 none lv (fun lv1 h1 => rl_name (by omega) hqe h1.1.1 h1.1.2.1 h1.1.2.2.1 h1.1.2.2.2.1 h1.1.2.2.2.2.1 h1.1.2.2.2.2.2 h1.2.1 h1.2.2 (by omega) (by rw [hsub]; exact hW) (by omega) (by rw [hsub]; exact hA) ht2 hk6 (fun lv2 a0 a1 a3 a4 a5 a6 => hB lv2 ⟨a0, a1, a3, a4, a5, a6⟩)) h)
      obtain ⟨x1, x2, x3⟩ := hnm nn g0 g1 e1 e2 e3 e4
      rw [c.hq, hE, hsub]
      exact ⟨r, x1, rfl, x2, x3⟩
theorem dW_val (hfA : ∀ i, i < n → fits .byte (.int (A i)) = true) : ∀ m, p + m ≤ n → (∀ i, i < m → c_dig (by1 A (p + i)) = true) → dW A p m = lN (tk_val (by1 A) p m) := by
  intro m
  induction m with
  | zero => exact fun _ _ => rfl
  | succ m ih =>
    intro h1 h2
    have hb := c_dig_le (h2 m (by omega))
    show 10 * dW A p m + (A (p + m)).toInt64 - 48 = lN (10 * tk_val (by1 A) p m + (by1 A (p + m) - 48))
    rw [ih (by omega) (fun i hi => h2 i (by omega)), by_eq (hfA (p + m) (by omega)) rfl (by omega)]
    exact num_step hb.1 (by omega)
/-- numbers -/
theorem lx_num (c : LC A n bj V W z own0 S0 gn0 N0 e l bl p k S) (hLt : c_let (by1 A p) = false) (hG : c_dig (by1 A p) = true) (ct : LCont A n bj V W z own0 S0 gn0 N0 d e l bl p k) : LXq A n bj V W z own0 S0 gn0 N0 d e l bl p k S := by
  obtain ⟨hT, ht⟩ := rS_T c.hS
  have hp := c.hp
  have hen := c.hen
  have hn := c.hn
  have hk6 := c.k6
  have hpn : p < n := by omega
  obtain ⟨r1, r2, r3⟩ := t_run_end (P := c_dig) (β := by1 A) (n := n) (p := p) (by omega)
  have hM1 : 1 ≤ t_run c_dig (by1 A) n (n - p) p := t_run_1 hpn hG
  have hMd : tk_dgN (by1 A) n p = t_run c_dig (by1 A) n (n - p) p := rfl
  have htk := c.tkq
  unfold tk at htk
  rw [if_neg c.not0, if_neg (by rw [hLt]; decide), if_pos hG, hMd] at htk
  generalize t_run c_dig (by1 A) n (n - p) p = M at *
  have hqe : p + M ≤ e := by
    rcases Nat.lt_or_ge e (p + M) with h | h
    · exfalso
      have h10 := r2 (e - p) (by omega)
      rw [show p + (e - p) = e by omega] at h10
      rcases c.he10 with h | h
      · omega
      · rw [h] at h10; exact absurd h10 (by decide)
    · exact h
  have hend : p + M = e ∨ c_dig (by1 A (p + M)) = false := r3.imp (fun h => by omega) id
  have hfp : fits .byte (.int (sA S 107 p)) = true := by rw [hT p hpn]; exact c.hfA p hpn
  have hsub : p + M - p = M := by omega
  have run : ∀ (Sf : cS) (v : Option Value) (lv : sm_L), (∀ lv1 fi, LG8 lv1 e l bl (p + M) (sA S 107 p) p → sm_get lv1 9 = some (.long (dW A p M)) → sm_get lv1 11 = some (.int fi) → numI A p M (dW A p M) fi → Bod (d + 8) 288 252 lv1 [] S v Sf) → LG6 lv e l bl p → Bod (d + 8) 288 3 lv [] S v Sf := fun Sf v lv hB h => rl_dig (by omega) (by omega) h.1 h.2.1 h.2.2.1 h.2.2.2.1 h.2.2.2.2.1 h.2.2.2.2.2 hp (by rw [hT p hpn]; exact by_ne c.h35 (by decide)) (by rw [hT p hpn]; exact by_ne c.h32 (by decide)) hfp (by rw [hT p hpn]; exact hLt) (by rw [hT p hpn]; exact hG) (fun lv1 a0 a1 a3 a4 a5 a6 a7 a8 a9 a11 => rl_drun (p0 := p) hn hen hT c.hfA hqe hend (fun lv2 w fi b1 b2 b3 b4 => by
    rw [hsub] at b4
    have hw := b4.1
    rw [hw] at b2 b4
    exact hB lv2 fi b1 b2 b3 b4) M p lv1 0 (nI 1) rfl (Nat.le_refl _) ⟨⟨a0, a1, a3, a4, a5, a6⟩, a7, a8⟩ a9 a11 (by rw [Nat.sub_self]; exact ⟨rfl, Or.inl ⟨rfl, rfl, Nat.zero_le _⟩⟩) (fun i h1 h2 => by
    have := r2 (i - p) (by omega)
    rw [show p + (i - p) = i by omega] at this
    exact this))
  by_cases hbig : 9223372036854775807 < tk_val (by1 A) p M
  · rw [if_pos hbig] at htk
    have hk0 : qK (by1 A) n k = 0 := congrArg Prod.fst htk
    have hE : qE (by1 A) n k = p + M := congrArg Prod.snd htk
    exact lx_glue (ct (p + M) _ (by omega) hqe hE (by omega) (c.tok (kd := 8) (vl := nI 0) (rS_wL (a := 71) (x := dW A p M) c.hS (Or.inl rfl)) (by omega) rfl (by rw [hk0]; rfl) (by omega) (fun h => by omega) (fun h => by omega) (fun h => by omega) (fun h => by omega) (fun h => by omega))) (fun S1 hB lv h => run S1 none lv (fun lv1 fi h1 h9 h11 hI => by
      have hfi : fi = nI 0 := by
        rcases hI.2 with ⟨i1, i2, i3⟩ | ⟨i1, i2⟩
        · omega
        · exact i1
      exact rl_nobad (by omega) hqe h1.1.1 h1.1.2.1 h1.1.2.2.1 h1.1.2.2.2.1 h1.1.2.2.2.2.1 h1.1.2.2.2.2.2 h1.2.1 h1.2.2 h9 h11 hfi ht hk6 (fun lv2 a0 a1 a3 a4 a5 a6 => hB lv2 ⟨a0, a1, a3, a4, a5, a6⟩)) h)
  · rw [if_neg hbig] at htk
    have hk0 : qK (by1 A) n k = 4 := congrArg Prod.fst htk
    have hE : qE (by1 A) n k = p + M := congrArg Prod.snd htk
    have hdw := dW_val c.hfA (p := p) M (by omega) r2
    exact lx_glue (ct (p + M) _ (by omega) hqe hE (by omega) (c.tok (kd := 3) (vl := nI 0) (rS_wL (a := 71) (x := dW A p M) c.hS (Or.inl rfl)) (by omega) rfl (by rw [hk0]; rfl) (by omega) (fun h => by omega) (fun h => by omega) (fun h => by omega) (fun h => by rw [rLe, vp_at, if_pos rfl, c.hq, hE, hsub]; exact hdw) (fun h => by omega))) (fun S1 hB lv h => run S1 none lv (fun lv1 fi h1 h9 h11 hI => by
      have hfi : fi = nI 1 := by
        rcases hI.2 with ⟨i1, i2, i3⟩ | ⟨i1, i2⟩
        · exact i1
        · exact absurd i2 hbig
      exact rl_num (by omega) hqe h1.1.1 h1.1.2.1 h1.1.2.2.1 h1.1.2.2.2.1 h1.1.2.2.2.2.1 h1.1.2.2.2.2.2 h1.2.1 h1.2.2 h9 h11 hfi ht hk6 (fun lv2 a0 a1 a3 a4 a5 a6 => hB lv2 ⟨a0, a1, a3, a4, a5, a6⟩)) h)
end
