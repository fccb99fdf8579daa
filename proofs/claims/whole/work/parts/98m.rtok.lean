/-! THE REFERENCE'S ROW OF TOKENS: what its arrays hold; a name of a text -/
theorem fit_small : ∀ {b : Nat}, b < 128 → fits .byte (.int (nI b)) = true := by
  have h : ∀ b, b < 128 → fits .byte (.int (nI b)) = true := by decide +kernel
  exact fun {b} => h b
theorem nm_rv {d fr M z : Nat} {S : cS} {own : Nat → Nat × Nat} {β : Nat → Nat} {V W : Nat → Int64} {nn g0 g1 g3 g4 g5 gn : Nat} {f : Nat → Nat} (hM1 : 1 ≤ M) (hM2 : M ≤ 12) (hfr : fr + M ≤ 3000) (hb : ∀ i, i < M → f i < 128 ∧ sA S 107 (fr + i) = nI (f i)) (hR : RN own S nn g0 g1 g3 g4 g5 gn) (hgn : gn < 2 ^ 18) (hfit : ∀ i, fits .byte (.int (sA S g0 i)) = true) (hNM : NMv β S V W z nn g0 g1 g3 g4 g5) (hO : OW own S) : ∃ S' own' nn' h0 h1 h3 h4 h5 gn' r, Ans (d + 8) 294 [.ref 61, .ref 107, .int (nI fr), .int (nI M)] S (some (.int (nI r))) S' ∧ RN own' S' nn' h0 h1 h3 h4 h5 gn' ∧ NMv β S' V W z nn' h0 h1 h3 h4 h5 ∧ r < nn' ∧ rnH S' h0 h1 r = e_H f M ∧ rnL S' h0 h1 r = e_L f M ∧ FrO own [20, 21, 23] [24, 25] [6102] [6100, 6101, 6103, 6104, 6105] S S' ∧ (∀ a, a < 108 + (sS S).length → own' a = own a) ∧ mu S' + 32 * gn = mu S + 32 * gn' ∧ (sS S').length + gn ≤ (sS S).length + gn' ∧ (gn' = gn ∨ gn = nn ∧ gn' = 2 * nn) ∧ (∀ i, fits .byte (.int (sA S' h0 i)) = true) ∧ (nn' = nn ∨ nn' = nn + 1) ∧ ∀ q, q < nn → rnH S' h0 h1 q = rnH S g0 g1 q ∧ rnL S' h0 h1 q = rnL S g0 g1 q := by
  have enc := fun r (hr : r < nn) => same_enc (ab := 107) (fr := fr) (n := M) (f := f) (hNM.1 r hr) hM2 hb
  by_cases hex : ∃ r, r < nn ∧ r_same S g0 g1 107 fr M r
  · obtain ⟨r, hr, hs⟩ := hex
    obtain ⟨eH, eL⟩ := (enc r hr).mp hs
    have hA : Ans (d + 8) 294 [.ref 61, .ref 107, .int (nI fr), .int (nI M)] S (some (.int (nI r))) S := by
      obtain ⟨q1, q2, q3, q4, q5, q6, k0, k1, k3, k4, k5, qn, _⟩ := id hR
      exact Ans.up (by omega) (nameOf_old (d := 0) (S := S) (NB := 3000) q1 q2 q3 k0 k1 (by omega) qn (mk_107 _) (by decide) (by omega) hM1 hM2 hr hs (fun p hp hps => by
        obtain ⟨eH2, eL2⟩ := (enc p (by omega)).mp hps
        have := hNM.2.1 p r (by omega) hr (eH2.trans eH.symm) (eL2.trans eL.symm)
        omega))
    have hF0 : FrO own [20, 21, 23] [24, 25] [6102] [6100, 6101, 6103, 6104, 6105] S S := ⟨rfl, rfl, fun _ _ => rfl, fun _ _ => rfl, ⟨[], (List.append_nil _).symm⟩, fun _ _ _ => rfl, fun _ _ _ => rfl⟩
    exact ⟨S, own, nn, g0, g1, g3, g4, g5, gn, r, hA, hR, hNM, hr, eH, eL, hF0, fun _ _ => rfl, rfl, Nat.le_refl _, Or.inl rfl, hfit, Or.inl rfl, fun _ _ => ⟨rfl, rfl⟩⟩
  · obtain ⟨S', own', h0, h1', h3, h4, h5, gn', hA, hR', hF', hown, hkept, hmu, hlen, hg, hft⟩ := nameOf_new (d := d + 5) (ab := 107) (NB := 3000) (fr := fr) (n := M) hR hgn (mk_107 _) (by omega) (by decide) hfr hM1 hM2 (fun i hi => by rw [(hb i hi).2]; exact fit_small (hb i hi).1) hfit (fun S' _ _ => mk_107 S') (fun p hp hs => hex ⟨p, hp, hs⟩)
    have hFO := FrN_O hF'
    have l17 : ∀ a, a < 62 → sL S' a = sL S a := fun a ha => OW_L hO hFO (by decide) (Or.inl ha)
    have hNM' : NMv β S' V W z (nn + 1) h0 h1' h3 h4 h5 := NM_R (S := S) (ab := 107) (fr := fr) (n := M) hNM hkept hM1 hM2 (fun i hi => ⟨_, (hb i hi).1, (hb i hi).2⟩) (fun p hp hs => hex ⟨p, hp, hs⟩) (fun q => ⟨by rw [l17 17 (by decide)], by rw [l17 18 (by decide)]⟩)
    have e107 : sA S' 107 = sA S 107 := OW_A hO hFO (by decide) (Or.inr (by decide))
    have hsame : r_same S' h0 h1' 107 fr M nn := ⟨hkept.2.2.2.1, fun i hi => by rw [hkept.2.1 i hi, e107]⟩
    obtain ⟨eH, eL⟩ := (same_enc (ab := 107) (fr := fr) (n := M) (f := f) (hNM'.1 nn (by omega)) hM2 (fun i hi => ⟨(hb i hi).1, by rw [e107]; exact (hb i hi).2⟩)).mp hsame
    exact ⟨S', own', nn + 1, h0, h1', h3, h4, h5, gn', nn, hA, hR', hNM', by omega, eH, eL, hFO, hown, hmu, hlen, hg, hft, Or.inr rfl, fun q hq => by
      have := rn_eq (S' := S') (h0 := h0) (h1 := h1') (hNM.1 q hq) (hkept.2.2.1 q hq) (fun i hi => hkept.1 q i hq hi)
      exact ⟨this.1, this.2.1⟩⟩
/-- the reference's numbers of kinds and signs -/
def rkd (k : Nat) : Nat := if k = 0 then 8 else if k = 1 then 7 else if k = 2 then 6 else if k = 3 then 1 else if k = 4 then 3 else if k = 5 then 4 else if k < 40 then 5 else 2
def rsg (k : Nat) : Nat := ([40, 41, 91, 93, 123, 125, 44, 58, 46, 43, 45, 42, 37, 61, 60, 62, 12079, 11069, 11581, 10813, 15677, 8509, 15421, 15933] : List Nat).getD (k - 6) 0
/-- token j stands in the reference's arrays -/
def rTk (β : Nat → Nat) (n : Nat) (S : cS) (g0 g1 nn j : Nat) : Prop := sA S 67 j = nI (rkd (qK β n j)) ∧ sA S 69 j = nI (qL β n j) ∧ (3 ≤ qK β n j → sA S 70 j = nI (qI β n j)) ∧ (qK β n j = 3 → ∃ r, r < nn ∧ sA S 68 j = nI r ∧ rnH S g0 g1 r = e_H (fun i => β (qP β n j + i)) (qE β n j - qP β n j) ∧ rnL S g0 g1 r = e_L (fun i => β (qP β n j + i)) (qE β n j - qP β n j)) ∧ (40 ≤ qK β n j → sA S 68 j = nI (qK β n j - 40)) ∧ (6 ≤ qK β n j ∧ qK β n j < 40 → sA S 68 j = nI (rsg (qK β n j))) ∧ (qK β n j = 4 → sL S 71 j = lN (tk_val β (qP β n j) (qE β n j - qP β n j))) ∧ (qK β n j = 5 → sL S 71 j = p_A (fun i => β (qP β n j + 1 + i)) (qE β n j - qP β n j - 2) ∧ sL S 72 j = p_B (fun i => β (qP β n j + 1 + i)) (qE β n j - qP β n j - 2)) ∧ (qK β n j = 0 → sA S 70 j = nI (qI β n j)) ∧ (qK β n j = 1 ∨ qK β n j = 2 → sA S 70 j = nI 0)
/-- all but the tokens and the names is as it was -/
def FrX (own0 : Nat → Nat × Nat) (S0 : cS) (own : Nat → Nat × Nat) (S : cS) : Prop := sJ S = sJ S0 ∧ sQ S = sQ S0 ∧ (∀ i, i ∉ [6102, 6112, 6113] → sI S i = sI S0 i) ∧ (∀ i, i ∉ [6100, 6101, 6103, 6104, 6105] → sV S i = sV S0 i) ∧ (∃ l, sS S = sS S0 ++ l) ∧ (∀ a, a < 108 + (sS S0).length → (own0 a).1 ∉ [20, 21, 23] → a ∉ [67, 68, 69, 70] → sA S a = sA S0 a) ∧ (∀ a, a < 108 + (sS S0).length → (own0 a).1 ∉ [24, 25] → a ∉ [71, 72] → sL S a = sL S0 a) ∧ ∀ a, a < 108 + (sS S0).length → own a = own0 a
/-- so far: k tokens -/
def rS (A : Nat → Int32) (n : Nat) (bj : Nat → Nat) (V W : Nat → Int64) (z : Nat) (own0 : Nat → Nat × Nat) (S0 : cS) (gn0 N k : Nat) (S : cS) : Prop := ∃ own nn g0 g1 g3 g4 g5 gn, RN own S nn g0 g1 g3 g4 g5 gn ∧ gn ≤ 64 + 2 * nn ∧ nn ≤ N ∧ (∀ i, fits .byte (.int (sA S g0 i)) = true) ∧ NMv bj S V W z nn g0 g1 g3 g4 g5 ∧ OW own S ∧ sI S 6112 = nI k ∧ (∀ j, j < k → rTk (by1 A) n S g0 g1 nn j) ∧ FrX own0 S0 own S ∧ (∀ i, i < n → sA S 107 i = A i) ∧ mu S + 32 * gn0 = mu S0 + 32 * gn ∧ (sS S).length + gn0 ≤ (sS S0).length + gn
theorem own_67 {own : Nat → Nat × Nat} {S : cS} (hO : OW own S) {a : Nat} (h : 67 ≤ a ∧ a ≤ 72 ∨ a = 107) : (own a).1 = 0 := hO.2.1 a (by omega) (by omega) (by omega) (by omega)
/-- one more token -/
theorem rS_tok {A : Nat → Int32} {n z gn0 N k kd : Nat} {vl bl : Int32} {bj : Nat → Nat} {V W : Nat → Int64} {own0 : Nat → Nat × Nat} {S0 S S1 : cS} (h : rS A n bj V W z own0 S0 gn0 N k S) (hk : k < 6002) (hS1 : S1 = wI 6112 (nI (k + 1)) (wA 70 k bl (wA 69 k (nI (qL (by1 A) n k)) (wA 68 k vl (wA 67 k (nI kd) S))))) (hkd : kd = rkd (qK (by1 A) n k)) (hbl : (qK (by1 A) n k = 1 ∨ qK (by1 A) n k = 2) ∧ bl = nI 0 ∨ qK (by1 A) n k ≠ 1 ∧ qK (by1 A) n k ≠ 2 ∧ bl = nI (qI (by1 A) n k)) (hn3 : qK (by1 A) n k = 3 → ∀ nn g0 g1, sI S 6102 = nI nn → nn ≤ N → sV S 6100 = .ref g0 → sV S 6101 = .ref g1 → ∃ r, r < nn ∧ vl = nI r ∧ rnH S g0 g1 r = e_H (fun i => by1 A (qP (by1 A) n k + i)) (qE (by1 A) n k - qP (by1 A) n k) ∧ rnL S g0 g1 r = e_L (fun i => by1 A (qP (by1 A) n k + i)) (qE (by1 A) n k - qP (by1 A) n k)) (h40 : 40 ≤ qK (by1 A) n k → vl = nI (qK (by1 A) n k - 40)) (h6 : 6 ≤ qK (by1 A) n k ∧ qK (by1 A) n k < 40 → vl = nI (rsg (qK (by1 A) n k))) (h4 : qK (by1 A) n k = 4 → sL S 71 k = lN (tk_val (by1 A) (qP (by1 A) n k) (qE (by1 A) n k - qP (by1 A) n k))) (h5 : qK (by1 A) n k = 5 → sL S 71 k = p_A (fun i => by1 A (qP (by1 A) n k + 1 + i)) (qE (by1 A) n k - qP (by1 A) n k - 2) ∧ sL S 72 k = p_B (fun i => by1 A (qP (by1 A) n k + 1 + i)) (qE (by1 A) n k - qP (by1 A) n k - 2)) : rS A n bj V W z own0 S0 gn0 N (k + 1) S1 := by
  obtain ⟨own, nn, g0, g1, g3, g4, g5, gn, hR, hgn, hnn, hft, hNM, hO, ht, hall, hF, h107, hmu, hlen⟩ := h
  subst hS1
  obtain ⟨q1, q2, q3, q4, q5, q6, k0, k1, k3, k4, k5, qn, o64, o0, o1, o3, o4, o5⟩ := id hR
  have hne : ∀ g, (own g).1 ≠ 0 → ∀ a, (67 ≤ a ∧ a ≤ 72 ∨ a = 107) → g ≠ a := fun g hg a ha e => hg (by rw [e]; exact own_67 hO ha)
  have eA : ∀ g, (own g).1 ≠ 0 → sA (wI 6112 (nI (k + 1)) (wA 70 k bl (wA 69 k (nI (qL (by1 A) n k)) (wA 68 k vl (wA 67 k (nI kd) S))))) g = sA S g := fun g hg => by
    show sA (wA 70 k bl (wA 69 k (nI (qL (by1 A) n k)) (wA 68 k vl (wA 67 k (nI kd) S)))) g = _
    rw [rAn _ _ _ (hne g hg 70 (by omega)), rAn _ _ _ (hne g hg 69 (by omega)), rAn _ _ _ (hne g hg 68 (by omega)), rAn _ _ _ (hne g hg 67 (by omega))]
  have a67 : sA (wI 6112 (nI (k + 1)) (wA 70 k bl (wA 69 k (nI (qL (by1 A) n k)) (wA 68 k vl (wA 67 k (nI kd) S))))) 67 = upd (sA S 67) k (nI kd) := rfl
  have a68 : sA (wI 6112 (nI (k + 1)) (wA 70 k bl (wA 69 k (nI (qL (by1 A) n k)) (wA 68 k vl (wA 67 k (nI kd) S))))) 68 = upd (sA S 68) k vl := rfl
  have a69 : sA (wI 6112 (nI (k + 1)) (wA 70 k bl (wA 69 k (nI (qL (by1 A) n k)) (wA 68 k vl (wA 67 k (nI kd) S))))) 69 = upd (sA S 69) k (nI (qL (by1 A) n k)) := rfl
  have a70 : sA (wI 6112 (nI (k + 1)) (wA 70 k bl (wA 69 k (nI (qL (by1 A) n k)) (wA 68 k vl (wA 67 k (nI kd) S))))) 70 = upd (sA S 70) k bl := rfl
  have e0 := eA g0 (by rw [o0]; decide)
  have e1 := eA g1 (by rw [o1]; decide)
  have e3 := eA g3 (by rw [o3]; decide)
  have hrn : ∀ r, rnH (wI 6112 (nI (k + 1)) (wA 70 k bl (wA 69 k (nI (qL (by1 A) n k)) (wA 68 k vl (wA 67 k (nI kd) S))))) g0 g1 r = rnH S g0 g1 r ∧ rnL (wI 6112 (nI (k + 1)) (wA 70 k bl (wA 69 k (nI (qL (by1 A) n k)) (wA 68 k vl (wA 67 k (nI kd) S))))) g0 g1 r = rnL S g0 g1 r := fun r => by
    unfold rnH rnL rnm
    rw [e0, e1]
    exact ⟨rfl, rfl⟩
  refine ⟨own, nn, g0, g1, g3, g4, g5, gn, ⟨(rIn _ _ (by decide)).trans q1, q2, q3, q4, q5, q6, isK_S rfl k0, isK_S rfl k1, isK_S rfl k3, isK_S rfl k4, isK_S rfl k5, qn, o64, o0, o1, o3, o4, o5⟩, hgn, hnn, fun i => by rw [e0]; exact hft i, NMv_S hNM e0 e1 e3 rfl rfl rfl rfl, hO, rIe _ _ _, fun j hj => ?_, ⟨hF.1, hF.2.1, fun i hi => ?_, hF.2.2.2.1, hF.2.2.2.2.1, fun a ha h1 h2 => ?_, hF.2.2.2.2.2.2.1, hF.2.2.2.2.2.2.2⟩, fun i hi => ?_, hmu, hlen⟩
  · unfold rTk
    rw [a67, a68, a69, a70, upd_at, upd_at, upd_at, upd_at]
    by_cases hjk : j = k
    · subst hjk
      rw [if_pos rfl, if_pos rfl, if_pos rfl, if_pos rfl]
      refine ⟨by rw [hkd], rfl, fun h => ?_, fun h => ?_, h40, h6, h4, h5, fun h => ?_, fun h => ?_⟩
      · rcases hbl with ⟨h1, h2⟩ | ⟨h1, h2, h3⟩
        · omega
        · exact h3
      · obtain ⟨r, r1, r2, r3, r4⟩ := hn3 h nn g0 g1 q1 hnn q2 q3
        exact ⟨r, r1, r2, by rw [(hrn r).1]; exact r3, by rw [(hrn r).2]; exact r4⟩
      · rcases hbl with ⟨h1, h2⟩ | ⟨h1, h2, h3⟩
        · omega
        · exact h3
      · rcases hbl with ⟨h1, h2⟩ | ⟨h1, h2, h3⟩
        · exact h2
        · omega
    · rw [if_neg hjk, if_neg hjk, if_neg hjk, if_neg hjk]
      obtain ⟨r1, r2, r3, r4, r5⟩ := hall j (by omega)
      refine ⟨r1, r2, r3, fun h => ?_, r5⟩
      obtain ⟨r, i1, i2, i3, i4⟩ := r4 h
      exact ⟨r, i1, i2, by rw [(hrn r).1]; exact i3, by rw [(hrn r).2]; exact i4⟩
  · have hi2 : i ≠ 6112 := fun e => hi (by rw [e]; decide)
    exact (rIn _ _ hi2).trans (hF.2.2.1 i hi)
  · have n67 : a ≠ 67 ∧ a ≠ 68 ∧ a ≠ 69 ∧ a ≠ 70 := by
      simp only [List.mem_cons, List.not_mem_nil, or_false, not_or] at h2
      exact h2
    show sA (wA 70 k bl (wA 69 k (nI (qL (by1 A) n k)) (wA 68 k vl (wA 67 k (nI kd) S)))) a = _
    rw [rAn _ _ _ n67.2.2.2, rAn _ _ _ n67.2.2.1, rAn _ _ _ n67.2.1, rAn _ _ _ n67.1]
    exact hF.2.2.2.2.2.1 a ha h1 h2
  · show sA (wA 70 k bl (wA 69 k (nI (qL (by1 A) n k)) (wA 68 k vl (wA 67 k (nI kd) S)))) 107 i = _
    rw [rAn _ _ _ (by decide), rAn _ _ _ (by decide), rAn _ _ _ (by decide), rAn _ _ _ (by decide)]
    exact h107 i hi
