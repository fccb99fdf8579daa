/-! READ OF THE CLASS: one theorem over the pure tokens -/
theorem tk_w12 : ∀ t, t ∈ w_tx → t < 51 ∧ 1 ≤ tx_n t ∧ tx_n t ≤ 12 := by decide +kernel
theorem tk_w_at {q : Nat} (h : q < 24) : ∃ t, w_tx[q]? = some t ∧ t ∈ w_tx := by
  have hl : w_tx.length = 24 := rfl
  exact ⟨w_tx[q]'(by omega), List.getElem?_eq_getElem (by omega), List.getElem_mem _⟩
theorem isw_H {f : Nat → Nat} {m t : Nat} (h : tk_isw f m t) : e_H f m = e_H (tx_c t) (tx_n t) ∧ e_L f m = e_L (tx_c t) (tx_n t) := by
  obtain ⟨rfl, h2⟩ := h
  exact ⟨e_H_congr h2, e_L_congr h2⟩
/-- a word of the table is a word of the language -/
theorem isw_of {S : cS} {f : Nat → Nat} {m q t : Nat} (hm : m ≤ 12) (hf : ∀ i, i < m → f i < 256) (hW : Wd S) (hw : w_tx[q]? = some t) (h : c_is S (e_H f m) (e_L f m) q) : tk_isw f m t := by
  have h1 := hW q t hw
  have ht := tk_w12 t (List.mem_of_getElem? hw)
  have h2 := e_inj (f := f) (g := tx_c t) (m := m) (n := tx_n t) (by omega) (by omega) hf (fun i hi => by have := (tx_ok t ht.1 i hi).2; omega) (h.1.symm.trans h1.1) (h.2.symm.trans h1.2)
  exact ⟨h2.1, h2.2⟩
theorem tk_nm_le {β : Nat → Nat} {n p : Nat} (h0 : ¬ (n ≤ p ∨ β p = 10 ∨ β p = 35)) (hL : c_let (β p) = true) (hM : ¬ 12 < tk_nmN β n p) : tk β n p = if tk_word (fun i => β (p + i)) (tk_nmN β n p) < 24 then (40 + tk_word (fun i => β (p + i)) (tk_nmN β n p), p + tk_nmN β n p) else (3, p + tk_nmN β n p) := by
  unfold tk
  rw [if_neg h0, if_pos hL, if_neg hM]
theorem read_tk {d n p0 p l z t : Nat} {S : cS} {A : Nat → Int32} (hA : sA S 1 = A) (hM : n ≤ 3000) (hn : sI S 3102 = nI n) (ht : sI S 3105 = nI t) (ht1 : 1 ≤ t) (ht2 : t < 100) (hp0 : sI S 3103 = nI p0) (h0p : p0 ≤ p) (hpn : p ≤ n) (hb : ∀ x, p0 ≤ x → x < p → by1 A x = 32) (he : p = n ∨ by1 A p ≠ 32) (hl : sI S 3106 = nI l) (hf : sI S 3113 = nI 0) (hN : c_NT S z) (hz : z < 4096) (h24 : 24 ≤ z) (hW : Wd S) : ∃ S1 z1, Ans (d + 5) 40 [.ref 31] S none S1 ∧ ct_tk (by1 A) S1 z1 p (tk (by1 A) n p) l ∧ FrT lxI lxJ [19, 20] [17, 18] S S1 ∧ NTx S z S1 z1 ∧ (z1 = z ∨ z1 = z + 1 ∧ (tk (by1 A) n p).1 = 3 ∧ nm_is S1 (by1 A) p ((tk (by1 A) n p).2 - p) z) := by
  subst hA
  have hβ : ∀ i, c_byte S i = by1 (sA S 1) i := fun i => rfl
  suffices key : ∃ S1 z1, Bod (d + 4) 40 29 [(1, .int (c_b S n p)), (0, .ref 31)] [] (wI 3104 (nI p) (wI 3103 (nI p) S)) none S1 ∧ ct_tk (by1 (sA S 1)) S1 z1 p (tk (by1 (sA S 1)) n p) l ∧ FrT lxI lxJ [19, 20] [17, 18] S S1 ∧ NTx S z S1 z1 ∧ (z1 = z ∨ z1 = z + 1 ∧ (tk (by1 (sA S 1)) n p).1 = 3 ∧ nm_is S1 (by1 (sA S 1)) p ((tk (by1 (sA S 1)) n p).2 - p) z) by
    obtain ⟨S1, z1, hB, h1⟩ := key
    exact ⟨S1, z1, read_to ht ht1 ht2 hn hM hp0 h0p hpn hb he hB, h1⟩
  by_cases h0 : n ≤ p ∨ by1 (sA S 1) p = 10 ∨ by1 (sA S 1) p = 35
  · have htk : tk (by1 (sA S 1)) n p = (2, p) := by unfold tk; rw [if_pos h0]
    rw [htk]
    refine ⟨wI 3105 (nI 2) (wI 3104 (nI p) (wI 3103 (nI p) S)), z, ?_, ct_plain (by decide) (rIe _ _ _) (by simp only [rI, rJI, rAI, rLI, rIJ, rIA, rJA, rLA, rIL, reduceIte, Nat.reduceEqDiff]) (by simp only [rI, rJI, rAI, rLI, rIJ, rIA, rJA, rLA, rIL, reduceIte, Nat.reduceEqDiff]) (by simp only [rI, rJI, rAI, rLI, rIJ, rIA, rJA, rLA, rIL, reduceIte, Nat.reduceEqDiff, hf]), (FrT_wI (by decide) (FrT_wI (by decide) (FrT_wI (by decide) (FrT.refl _ _ _ _ _)))), NTx_same hN (by simp only [rI, rJI, rAI, rLI, rIJ, rIA, rJA, rLA, rIL, reduceIte, Nat.reduceEqDiff]) rfl rfl rfl rfl, Or.inl rfl⟩
    by_cases hpp : n ≤ p
    · exact read_endT (b := 0) (Sf := S) (by unfold c_b; rw [if_neg (by omega)])
    · rcases h0 with h0 | h0 | h0
      · exact absurd h0 hpp
      · exact read_nl (b := 0) (Sf := S) (by unfold c_b; rw [if_pos (by omega), hβ, h0])
      · exact read_hash (b := 0) (Sf := S) (by unfold c_b; rw [if_pos (by omega), hβ, h0])
  have hpn2 : p < n := by
    rcases Nat.lt_or_ge p n with h | h
    · exact h
    · exact absurd (Or.inl h) h0
  have h10 : by1 (sA S 1) p ≠ 10 := fun e => h0 (Or.inr (Or.inl e))
  have h35 : by1 (sA S 1) p ≠ 35 := fun e => h0 (Or.inr (Or.inr e))
  have hx : c_b S n p = nI (by1 (sA S 1) p) := by unfold c_b; rw [if_pos hpn2, hβ]
  have hb2 := by1_lt (sA S 1) p
  by_cases hL : c_let (by1 (sA S 1) p) = true
  · obtain ⟨r1, r2, r3⟩ := t_run_end (P := tk_al) (β := by1 (sA S 1)) hpn
    have r4 := t_run_1 (P := tk_al) (β := by1 (sA S 1)) hpn2 (by unfold tk_al; rw [hL]; rfl)
    have hMd : tk_nmN (by1 (sA S 1)) n p = t_run tk_al (by1 (sA S 1)) n (n - p) p := rfl
    rw [← hMd] at r1 r2 r3 r4
    obtain ⟨M, hMe⟩ : ∃ M, tk_nmN (by1 (sA S 1)) n p = M := ⟨_, rfl⟩
    have hal : ∀ x, x < M → c_al (wI 3104 (nI p) (wI 3103 (nI p) S)) n (p + x) := fun x hx => by
      have h1 := r2 x (by omega)
      unfold tk_al at h1
      rw [Bool.or_eq_true] at h1
      exact ⟨by omega, h1⟩
    have hae : ¬ c_al (wI 3104 (nI p) (wI 3103 (nI p) S)) n (p + M) := fun h => by
      rw [hMe] at r3
      rcases r3 with r3 | r3
      · have := h.1; omega
      · unfold tk_al at r3
        rw [Bool.or_eq_false_iff] at r3
        have h2 : c_let (by1 (sA S 1) (p + M)) = true ∨ c_dig (by1 (sA S 1) (p + M)) = true := h.2
        rw [r3.1, r3.2] at h2
        rcases h2 with h2 | h2 <;> cases h2
    have hH := nmH_b (S := wI 3104 (nI p) (wI 3103 (nI p) S)) (A := sA S 1) rfl p M
    have hLo := nmL_b (S := wI 3104 (nI p) (wI 3103 (nI p) S)) (A := sA S 1) rfl p M
    have hN2 : c_NT (wI 3104 (nI p) (wI 3103 (nI p) S)) z := NT_I (by decide) (NT_I (by decide) hN)
    by_cases hM12 : 12 < M
    · have htk : tk (by1 (sA S 1)) n p = (0, p + M) := by unfold tk; rw [if_neg h0, if_pos hL, hMe, if_pos hM12]
      rw [htk]
      have hR := readName_much (d := d + 1) (S := wI 3104 (nI p) (wI 3103 (nI p) S)) hM hn (rIe _ _ _) (by simp only [rI, reduceIte, Nat.reduceEqDiff]) (by omega) (fun x hx => hal x (by omega))
      rw [fail_of (l := l) (by simp only [rI, reduceIte, Nat.reduceEqDiff, hf]) (by simp only [rI, reduceIte, Nat.reduceEqDiff, hl])] at hR
      exact ⟨_, z, read_name hx hb2 h10 h35 hL hR, ct_bad (rIe _ _ _) (by simp only [rI, rJI, rAI, rLI, rIJ, rIA, rJA, rLA, rIL, reduceIte, Nat.reduceEqDiff]) (by simp only [rI, rJI, rAI, rLI, rIJ, rIA, rJA, rLA, rIL, reduceIte, Nat.reduceEqDiff]), (FrT_wI (by decide) (FrT_wI (by decide) (FrT_wI (by decide) (FrT_wI (by decide) (FrT_wI (by decide) (FrT.refl _ _ _ _ _)))))), NTx_same hN (by simp only [rI, rJI, rAI, rLI, rIJ, rIA, rJA, rLA, rIL, reduceIte, Nat.reduceEqDiff]) rfl rfl rfl rfl, Or.inl rfl⟩
    · have htk := tk_nm_le h0 hL (by rw [hMe]; exact hM12)
      rw [hMe] at htk
      rcases tk_word_ok (fun i => by1 (sA S 1) (p + i)) M with ⟨hw, tt, hw2, hw3⟩ | ⟨hw, hw2⟩
      · rw [if_pos hw] at htk
        rw [htk]
        have hiw := isw_H hw3
        have h1 := hW _ tt hw2
        have hR := readName_word (d := d + 1) (S := wI 3104 (nI p) (wI 3103 (nI p) S)) (p := p) (M := M) hM (by omega) (by omega) hn (rIe _ _ _) (by simp only [rI, reduceIte, Nat.reduceEqDiff]) (by omega) hal hae hN2 hz (q := tk_word (fun i => by1 (sA S 1) (p + i)) M) (by omega) hw (by rw [hH, hLo, hiw.1, hiw.2]; exact h1)
        exact ⟨_, z, read_name hx hb2 h10 h35 hL hR, ct_plain (by omega) (by rw [rIe, Nat.add_comm]) (by simp only [rI, rJI, rAI, rLI, rIJ, rIA, rJA, rLA, rIL, reduceIte, Nat.reduceEqDiff]) (by simp only [rI, rJI, rAI, rLI, rIJ, rIA, rJA, rLA, rIL, reduceIte, Nat.reduceEqDiff]) (by simp only [rI, rJI, rAI, rLI, rIJ, rIA, rJA, rLA, rIL, reduceIte, Nat.reduceEqDiff, hf]), (FrT_wI (by decide) (FrT_wI (by decide) (FrT_wI (by decide) (FrT_wI (by decide) (FrT_wI (by decide) (FrT.refl _ _ _ _ _)))))), NTx_same hN (by simp only [rI, rJI, rAI, rLI, rIJ, rIA, rJA, rLA, rIL, reduceIte, Nat.reduceEqDiff]) rfl rfl rfl rfl, Or.inl rfl⟩
      · rw [if_neg (by omega)] at htk
        rw [htk]
        have hdf : p + M - p = M := by omega
        by_cases hk : ∃ q, q < z ∧ c_is S (e_H (fun i => by1 (sA S 1) (p + i)) M) (e_L (fun i => by1 (sA S 1) (p + i)) M) q
        · obtain ⟨q, hq, hq2⟩ := hk
          have hq24 : 24 ≤ q := by
            rcases Nat.lt_or_ge q 24 with h | h
            · obtain ⟨tt, e1, e2⟩ := tk_w_at h
              exact absurd (isw_of (by omega) (fun i _ => by1_lt _ _) hW e1 hq2) (hw2 tt e2)
            · exact h
          have hR := readName_known (d := d + 1) (S := wI 3104 (nI p) (wI 3103 (nI p) S)) (p := p) (M := M) hM (by omega) (by omega) hn (rIe _ _ _) (by simp only [rI, reduceIte, Nat.reduceEqDiff]) (by omega) hal hae hN2 hz (q := q) hq hq24 (by rw [hH, hLo]; exact hq2)
          refine ⟨_, z, read_name hx hb2 h10 h35 hL hR, ⟨rIe _ _ _, (by simp only [rI, rJI, rAI, rLI, rIJ, rIA, rJA, rLA, rIL, reduceIte, Nat.reduceEqDiff]), fun h => (by cases h), fun _ => ⟨(by simp only [rI, rJI, rAI, rLI, rIJ, rIA, rJA, rLA, rIL, reduceIte, Nat.reduceEqDiff]), (by simp only [rI, rJI, rAI, rLI, rIJ, rIA, rJA, rLA, rIL, reduceIte, Nat.reduceEqDiff, hf])⟩, fun _ => ⟨q, hq24, hq, (by simp only [rI, rJI, rAI, rLI, rIJ, rIA, rJA, rLA, rIL, reduceIte, Nat.reduceEqDiff]), ?_⟩, fun h => (by cases h), fun h => (by cases h)⟩, (FrT_wI (by decide) (FrT_wI (by decide) (FrT_wI (by decide) (FrT_wI (by decide) (FrT_wI (by decide) (FrT.refl _ _ _ _ _)))))), NTx_same hN (by simp only [rI, rJI, rAI, rLI, rIJ, rIA, rJA, rLA, rIL, reduceIte, Nat.reduceEqDiff]) rfl rfl rfl rfl, Or.inl rfl⟩
          show nm_is S _ _ (p + M - p) q
          rw [hdf]
          exact hq2
        · obtain ⟨b, hR, hNT⟩ := readName_new (d := d + 1) (S := wI 3104 (nI p) (wI 3103 (nI p) S)) (p := p) (M := M) (z := z) hM (by omega) (by omega) hn (rIe _ _ _) (by simp only [rI, reduceIte, Nat.reduceEqDiff]) (by omega) hal hae hN2 hz h24 (by rw [hH, hLo]; exact fun i hi hc => hk ⟨i, hi, hc⟩)
          rw [hH, hLo] at hR hNT
          have hnm : nm_is (wI 3105 (nI 3) (wI 3109 (nI z) (c_learn (wI 3103 (nI (p + M)) (wI 3104 (nI p) (wI 3103 (nI p) S))) (e_H (fun i => by1 (sA S 1) (p + i)) M) (e_L (fun i => by1 (sA S 1) (p + i)) M) z b))) (by1 (sA S 1)) p (p + M - p) z := by
            rw [hdf]
            exact ⟨if_pos rfl, if_pos rfl⟩
          refine ⟨_, z + 1, read_name hx hb2 h10 h35 hL hR, ⟨rIe _ _ _, ?_, fun h => (by cases h), fun _ => ⟨?_, ?_⟩, fun _ => ⟨z, h24, by omega, ?_, hnm⟩, fun h => (by cases h), fun h => (by cases h)⟩, ?_, ⟨by omega, hNT, fun i hi => ⟨if_neg (by omega), if_neg (by omega)⟩⟩, Or.inr ⟨rfl, rfl, hnm⟩⟩
          · rw [rIn _ _ (by decide), rIn _ _ (by decide), learn_I _ _ _ _ _ (by decide)]; simp only [rI, reduceIte, Nat.reduceEqDiff]
          · rw [rIn _ _ (by decide), rIn _ _ (by decide), learn_I _ _ _ _ _ (by decide)]; simp only [rI, reduceIte, Nat.reduceEqDiff]
          · rw [rIn _ _ (by decide), rIn _ _ (by decide), learn_I _ _ _ _ _ (by decide)]; simp only [rI, reduceIte, Nat.reduceEqDiff, hf]
          · rw [rIn _ _ (by decide), rIe]
          · unfold c_learn
            exact (FrT_wI (by decide) (FrT_wI (by decide) (FrT_wA (by decide) (FrT_wI (by decide) (FrT_wA (by decide) (FrT_wL (by decide) (FrT_wL (by decide) (FrT_wI (by decide) (FrT_wI (by decide) (FrT_wI (by decide) (FrT.refl _ _ _ _ _)))))))))))
  have hL2 : c_let (by1 (sA S 1) p) = false := by simpa using hL
  by_cases hG : c_dig (by1 (sA S 1) p) = true
  · obtain ⟨r1, r2, r3⟩ := t_run_end (P := c_dig) (β := by1 (sA S 1)) hpn
    have hMd : tk_dgN (by1 (sA S 1)) n p = t_run c_dig (by1 (sA S 1)) n (n - p) p := rfl
    rw [← hMd] at r1 r2 r3
    obtain ⟨M, hMe⟩ : ∃ M, tk_dgN (by1 (sA S 1)) n p = M := ⟨_, rfl⟩
    rw [hMe] at r1 r2 r3
    have hv := dv_b (S := wI 3104 (nI p) (wI 3103 (nI p) S)) (A := sA S 1) rfl p M
    by_cases hx2 : 9223372036854775807 < tk_val (by1 (sA S 1)) p M
    · have htk : tk (by1 (sA S 1)) n p = (0, p + M) := by unfold tk; rw [if_neg h0, if_neg hL, if_pos hG, hMe, if_pos hx2]
      rw [htk]
      obtain ⟨m, hR⟩ := readNumber_much (d := d + 1) (S := wI 3104 (nI p) (wI 3103 (nI p) S)) (p := p) (M := M) hM hn (by simp only [rI, reduceIte, Nat.reduceEqDiff]) r1 r2 (by rw [hv]; exact hx2)
      rw [fail_of (l := l) (by simp only [rI, rJI, reduceIte, Nat.reduceEqDiff, hf]) (by simp only [rI, rJI, reduceIte, Nat.reduceEqDiff, hl])] at hR
      exact ⟨_, z, read_number hx hb2 h10 h35 hL2 hG hR, ct_bad (rIe _ _ _) (by simp only [rI, rJI, rAI, rLI, rIJ, rIA, rJA, rLA, rIL, reduceIte, Nat.reduceEqDiff]) (by simp only [rI, rJI, rAI, rLI, rIJ, rIA, rJA, rLA, rIL, reduceIte, Nat.reduceEqDiff]), (FrT_wI (by decide) (FrT_wI (by decide) (FrT_wI (by decide) (FrT_wJ (by decide) (FrT_wI (by decide) (FrT_wI (by decide) (FrT.refl _ _ _ _ _))))))), NTx_same hN (by simp only [rI, rJI, rAI, rLI, rIJ, rIA, rJA, rLA, rIL, reduceIte, Nat.reduceEqDiff]) rfl rfl rfl rfl, Or.inl rfl⟩
    · have htk : tk (by1 (sA S 1)) n p = (4, p + M) := by unfold tk; rw [if_neg h0, if_neg hL, if_pos hG, hMe, if_neg hx2]
      rw [htk]
      have hR := readNumber_ev (d := d + 1) (S := wI 3104 (nI p) (wI 3103 (nI p) S)) (p := p) (M := M) hM hn (by simp only [rI, reduceIte, Nat.reduceEqDiff]) r1 r2 (by rw [hv]; omega) r3
      refine ⟨_, z, read_number hx hb2 h10 h35 hL2 hG hR, ⟨rIe _ _ _, (by simp only [rI, rJI, rAI, rLI, rIJ, rIA, rJA, rLA, rIL, reduceIte, Nat.reduceEqDiff]), fun h => (by cases h), fun _ => ⟨(by simp only [rI, rJI, rAI, rLI, rIJ, rIA, rJA, rLA, rIL, reduceIte, Nat.reduceEqDiff]), (by simp only [rI, rJI, rAI, rLI, rIJ, rIA, rJA, rLA, rIL, reduceIte, Nat.reduceEqDiff, hf])⟩, fun h => (by cases h), fun _ => ?_, fun h => (by cases h)⟩, (FrT_wI (by decide) (FrT_wI (by decide) (FrT_wJ (by decide) (FrT_wI (by decide) (FrT_wI (by decide) (FrT.refl _ _ _ _ _)))))), NTx_same hN (by simp only [rI, rJI, rAI, rLI, rIJ, rIA, rJA, rLA, rIL, reduceIte, Nat.reduceEqDiff]) rfl rfl rfl rfl, Or.inl rfl⟩
      show sJ (wI 3105 (nI 4) (wI 3103 (nI (p + M)) (wJ 3110 (lN (c_dv (wI 3104 (nI p) (wI 3103 (nI p) S)) p M)) (wI 3104 (nI p) (wI 3103 (nI p) S))))) 3110 = lN (tk_val _ p (p + M - p))
      rw [rIJ, rIJ, rJe, hv, show p + M - p = M by omega]
  have hG2 : c_dig (by1 (sA S 1) p) = false := by simpa using hG
  by_cases h39 : by1 (sA S 1) p = 39
  · obtain ⟨r1, r2, r3⟩ := t_run_end (P := tk_in) (β := by1 (sA S 1)) (n := n) (p := p + 1) (by omega)
    have hMd : tk_txN (by1 (sA S 1)) n p = t_run tk_in (by1 (sA S 1)) n (n - (p + 1)) (p + 1) := rfl
    rw [← hMd] at r1 r2 r3
    obtain ⟨M, hMe⟩ : ∃ M, tk_txN (by1 (sA S 1)) n p = M := ⟨_, rfl⟩
    rw [hMe] at r1 r2 r3
    have hin : ∀ x, x < M → c_in (wI 3104 (nI p) (wI 3103 (nI p) S)) (p + 1 + x) := fun x hx => by
      have h1 := r2 x hx
      unfold tk_in at h1
      rw [Bool.and_eq_true, Bool.and_eq_true, Nat.ble_eq, Nat.ble_eq] at h1
      refine ⟨fun e => ?_, h1.2.1, h1.2.2⟩
      have e2 : by1 (sA S 1) (p + 1 + x) = 39 := e
      rw [e2] at h1
      cases h1.1
    have hH := nmH_b (S := wI 3104 (nI p) (wI 3103 (nI p) S)) (A := sA S 1) rfl (p + 1) M
    have hLo := nmL_b (S := wI 3104 (nI p) (wI 3103 (nI p) S)) (A := sA S 1) rfl (p + 1) M
    by_cases hg : p + 1 + M < n ∧ by1 (sA S 1) (p + 1 + M) = 39 ∧ M ≤ 15
    · have htk : tk (by1 (sA S 1)) n p = (5, p + 1 + M + 1) := by unfold tk; rw [if_neg h0, if_neg hL, if_neg hG, if_pos h39, hMe, if_pos hg]
      rw [htk]
      have hR := readText_ev (d := d + 1) (S := wI 3104 (nI p) (wI 3103 (nI p) S)) (p := p) (M := M) hM hg.2.2 hn (by simp only [rI, reduceIte, Nat.reduceEqDiff]) hg.1 hin hg.2.1
      rw [hH, hLo] at hR
      unfold c_tx at hR
      refine ⟨_, z, read_text hx hb2 h39 hL2 hG2 hR, ⟨rIe _ _ _, (by simp only [rI, rJI, rAI, rLI, rIJ, rIA, rJA, rLA, rIL, reduceIte, Nat.reduceEqDiff]), fun h => (by cases h), fun _ => ⟨(by simp only [rI, rJI, rAI, rLI, rIJ, rIA, rJA, rLA, rIL, reduceIte, Nat.reduceEqDiff]), (by simp only [rI, rJI, rAI, rLI, rIJ, rIA, rJA, rLA, rIL, reduceIte, Nat.reduceEqDiff, hf])⟩, fun h => (by cases h), fun h => (by cases h), fun _ => ?_⟩, (FrT_wI (by decide) (FrT_wI (by decide) (FrT_wI (by decide) (FrT_wJ (by decide) (FrT_wJ (by decide) (FrT_wI (by decide) (FrT_wI (by decide) (FrT.refl _ _ _ _ _)))))))), NTx_same hN (by simp only [rI, rJI, rAI, rLI, rIJ, rIA, rJA, rLA, rIL, reduceIte, Nat.reduceEqDiff]) rfl rfl rfl rfl, Or.inl rfl⟩
      show sJ _ 3111 = e_H _ (p + 1 + M + 1 - p - 2) ∧ sJ _ 3112 = e_L _ (p + 1 + M + 1 - p - 2)
      rw [show p + 1 + M + 1 - p - 2 = M by omega]
      exact ⟨by rw [rIJ, rIJ, rIJ, rJe], by rw [rIJ, rIJ, rIJ, rJn _ _ (by decide), rJe]⟩
    · have htk : tk (by1 (sA S 1)) n p = (0, tk_eol (by1 (sA S 1)) n p) := by unfold tk; rw [if_neg h0, if_neg hL, if_neg hG, if_pos h39, hMe, if_neg hg]
      rw [htk]
      have hR : ∃ H Lo x, Ans (d + 4) 46 [.ref 31] (wI 3104 (nI p) (wI 3103 (nI p) S)) none (c_fail (c_tx H Lo x (wI 3104 (nI p) (wI 3103 (nI p) S)))) := by
        rcases Nat.lt_or_ge 15 M with h15 | h15
        · exact ⟨_, _, _, readText_fail_long (d := d + 1) (p := p) hM hn (by simp only [rI, reduceIte, Nat.reduceEqDiff]) (by omega) (fun x hx => hin x (by omega))⟩
        · by_cases hend : p + 1 + M = n
          · exact ⟨_, _, _, readText_fail_end (d := d + 1) (p := p) (M := M) hM h15 hn (by simp only [rI, reduceIte, Nat.reduceEqDiff]) hend.symm hin⟩
          · have h5 : tk_in (by1 (sA S 1) (p + 1 + M)) = false := r3.resolve_left hend
            have h6 : by1 (sA S 1) (p + 1 + M) ≠ 39 := fun e => hg ⟨by omega, e, h15⟩
            have h7 : c_byte (wI 3104 (nI p) (wI 3103 (nI p) S)) (p + 1 + M) < 32 ∨ 126 < c_byte (wI 3104 (nI p) (wI 3103 (nI p) S)) (p + 1 + M) := by
              show by1 (sA S 1) (p + 1 + M) < 32 ∨ 126 < by1 (sA S 1) (p + 1 + M)
              unfold tk_in at h5
              rcases Nat.lt_or_ge (by1 (sA S 1) (p + 1 + M)) 32 with h8 | h8
              · exact Or.inl h8
              · rcases Nat.lt_or_ge 126 (by1 (sA S 1) (p + 1 + M)) with h9 | h9
                · exact Or.inr h9
                · exfalso
                  have e1 : Nat.beq (by1 (sA S 1) (p + 1 + M)) 39 = false := by
                    cases h : Nat.beq (by1 (sA S 1) (p + 1 + M)) 39 with
                    | false => rfl
                    | true => exact absurd (Nat.beq_eq.mp h) h6
                  rw [e1, Nat.ble_eq.mpr h8, Nat.ble_eq.mpr h9] at h5
                  cases h5
            exact ⟨_, _, _, readText_fail_bad (d := d + 1) (p := p) (M := M) hM h15 hn (by simp only [rI, reduceIte, Nat.reduceEqDiff]) (by omega) hin h7⟩
      obtain ⟨H, Lo, x, hR⟩ := hR
      unfold c_tx at hR
      rw [fail_of (l := l) (by simp only [rI, rJI, reduceIte, Nat.reduceEqDiff, hf]) (by simp only [rI, rJI, reduceIte, Nat.reduceEqDiff, hl])] at hR
      exact ⟨_, z, read_text hx hb2 h39 hL2 hG2 hR, ct_bad (rIe _ _ _) (by simp only [rI, rJI, rAI, rLI, rIJ, rIA, rJA, rLA, rIL, reduceIte, Nat.reduceEqDiff]) (by simp only [rI, rJI, rAI, rLI, rIJ, rIA, rJA, rLA, rIL, reduceIte, Nat.reduceEqDiff]), (FrT_wI (by decide) (FrT_wI (by decide) (FrT_wI (by decide) (FrT_wJ (by decide) (FrT_wJ (by decide) (FrT_wI (by decide) (FrT_wI (by decide) (FrT.refl _ _ _ _ _)))))))), NTx_same hN (by simp only [rI, rJI, rAI, rLI, rIJ, rIA, rJA, rLA, rIL, reduceIte, Nat.reduceEqDiff]) rfl rfl rfl rfl, Or.inl rfl⟩
  · have htk : tk (by1 (sA S 1)) n p = if tk_sg (by1 (sA S 1) p) (tk_at (by1 (sA S 1)) n (p + 1)) = 0 then (0, p + 1) else if 22 ≤ tk_sg (by1 (sA S 1) p) (tk_at (by1 (sA S 1)) n (p + 1)) then (tk_sg (by1 (sA S 1) p) (tk_at (by1 (sA S 1)) n (p + 1)), p + 2) else (tk_sg (by1 (sA S 1) p) (tk_at (by1 (sA S 1)) n (p + 1)), p + 1) := by
      unfold tk; rw [if_neg h0, if_neg hL, if_neg hG, if_neg h39]
    obtain ⟨c, hc⟩ : ∃ c, tk_at (by1 (sA S 1)) n (p + 1) = c := ⟨_, rfl⟩
    obtain ⟨b, hbe⟩ : ∃ b, by1 (sA S 1) p = b := ⟨_, rfl⟩
    have hp3 : sI (wI 3104 (nI p) (wI 3103 (nI p) S)) 3103 = nI p := by simp only [rI, reduceIte, Nat.reduceEqDiff]
    have hcb : ∀ v, v ≠ 0 → v < 256 → (c = v ↔ c_b (wI 3104 (nI p) (wI 3103 (nI p) S)) n (p + 1) = nI v) := fun v hv hv2 => by
      unfold tk_at at hc
      show c = v ↔ (if p + 1 < n then nI (by1 (sA S 1) (p + 1)) else Int32.ofInt (-1)) = nI v
      split at hc
      · rename_i h
        rw [if_pos h, hc]
        have := by1_lt (sA S 1) (p + 1)
        exact ⟨fun e => by rw [e], fun e => nI_inj (by omega) (by omega) e⟩
      · rename_i h
        rw [if_neg h]
        exact ⟨fun e => by omega, fun e => absurd e.symm (nI_nm1 (by omega))⟩
    rw [hc] at htk
    rw [hbe] at htk hx hb2 h10 h35 h39 hL2 hG2
    -- a sign is read, or none
    have hgood : ∀ s, tk_sg b c = s → s ≠ 0 → Ans (d + 4) 48 [.ref 31, .int (nI b)] (wI 3104 (nI p) (wI 3103 (nI p) S)) none (wI 3105 (nI s) (wI 3103 (nI (p + if 22 ≤ s then 2 else 1)) (wI 3104 (nI p) (wI 3103 (nI p) S)))) := fun s hs hs0 => by
      unfold tk_sg at hs
      split at hs
      · rename_i h
        subst hs
        exact readSign_slash (d := d + 2) hb2 hn hp3 hpn2 hM h.1 ((hcb 47 (by decide) (by decide)).mp h.2)
      · rename_i h47
        split at hs
        · rename_i h61
          have hs2 : 22 ≤ s ∧ s < 100 := by
            have := h61.2
            have := signEq_r b
            omega
          rw [if_pos hs2.1]
          refine readSign_eq1 (d := d + 2) hb2 hn hp3 hpn2 hM ((hcb 61 (by decide) (by decide)).mp h61.1) hs hs2.1 hs2.2 (fun e => ?_)
          subst e
          exact h61.2 rfl
        · rename_i h61
          have hs2 : s < 22 := by
            have := signOne_r b
            omega
          rw [if_neg (by omega)]
          have hb47 : b ≠ 47 := fun e => by
            subst e
            exact hs0 hs.symm
          by_cases hc61 : c = 61
          · exact readSign_eone0 (d := d + 2) hb2 hn hp3 hpn2 hM ((hcb 61 (by decide) (by decide)).mp hc61) (by
              rcases Nat.eq_zero_or_pos (c_signEq b) with h | h
              · exact h
              · exact absurd ⟨hc61, by omega⟩ h61) hs hs2 (by omega) hb47
          · exact readSign_one0 (d := d + 2) hb2 hn hp3 hpn2 hM (fun e => hc61 ((hcb 61 (by decide) (by decide)).mpr e)) hs hs2 (by omega) hb47
    have hbad : tk_sg b c = 0 → Ans (d + 4) 48 [.ref 31, .int (nI b)] (wI 3104 (nI p) (wI 3103 (nI p) S)) none (c_fail (wI 3104 (nI p) (wI 3103 (nI p) S))) := fun hs => by
      unfold tk_sg at hs
      split at hs
      · cases hs
      · rename_i h47
        split at hs
        · rename_i h61; exact absurd hs h61.2
        · rename_i h61
          by_cases hb47 : b = 47
          · by_cases hc61 : c = 61
            · exact readSign_esno (d := d + 2) hb2 hn hp3 hpn2 hM hb47 ((hcb 61 (by decide) (by decide)).mp hc61) (by subst hb47; rfl) hs
            · exact readSign_sno (d := d + 2) hb2 hn hp3 hpn2 hM hb47 (fun e => hc61 ((hcb 61 (by decide) (by decide)).mpr e)) (fun e => h47 ⟨hb47, (hcb 47 (by decide) (by decide)).mpr e⟩) hs
          · by_cases hc61 : c = 61
            · exact readSign_eno (d := d + 2) hb2 hn hp3 hpn2 hM ((hcb 61 (by decide) (by decide)).mp hc61) (by
                rcases Nat.eq_zero_or_pos (c_signEq b) with h | h
                · exact h
                · exact absurd ⟨hc61, by omega⟩ h61) hs hb47
            · exact readSign_no (d := d + 2) hb2 hn hp3 hpn2 hM (fun e => hc61 ((hcb 61 (by decide) (by decide)).mpr e)) hs hb47
    by_cases hs0 : tk_sg b c = 0
    · rw [if_pos hs0] at htk
      rw [htk]
      have hR := hbad hs0
      rw [fail_of (l := l) (by simp only [rI, rJI, reduceIte, Nat.reduceEqDiff, hf]) (by simp only [rI, rJI, reduceIte, Nat.reduceEqDiff, hl])] at hR
      exact ⟨_, z, read_sign hx hb2 h10 h35 h39 hL2 hG2 hR, ct_bad (rIe _ _ _) (by simp only [rI, rJI, rAI, rLI, rIJ, rIA, rJA, rLA, rIL, reduceIte, Nat.reduceEqDiff]) (by simp only [rI, rJI, rAI, rLI, rIJ, rIA, rJA, rLA, rIL, reduceIte, Nat.reduceEqDiff]), (FrT_wI (by decide) (FrT_wI (by decide) (FrT_wI (by decide) (FrT_wI (by decide) (FrT.refl _ _ _ _ _))))), NTx_same hN (by simp only [rI, rJI, rAI, rLI, rIJ, rIA, rJA, rLA, rIL, reduceIte, Nat.reduceEqDiff]) rfl rfl rfl rfl, Or.inl rfl⟩
    · rw [if_neg hs0] at htk
      have htk2 : tk (by1 (sA S 1)) n p = (tk_sg b c, p + if 22 ≤ tk_sg b c then 2 else 1) := by
        rw [htk]
        split <;> rfl
      rw [htk2]
      have hk3 : tk_sg b c ≠ 0 ∧ tk_sg b c ≠ 3 ∧ tk_sg b c ≠ 4 ∧ tk_sg b c ≠ 5 := by
        have := tk_sg_r b c
        omega
      exact ⟨_, z, read_sign hx hb2 h10 h35 h39 hL2 hG2 (hgood _ rfl hs0), ct_plain hk3 (rIe _ _ _) (by simp only [rI, rJI, rAI, rLI, rIJ, rIA, rJA, rLA, rIL, reduceIte, Nat.reduceEqDiff]) (by simp only [rI, rJI, rAI, rLI, rIJ, rIA, rJA, rLA, rIL, reduceIte, Nat.reduceEqDiff]) (by simp only [rI, rJI, rAI, rLI, rIJ, rIA, rJA, rLA, rIL, reduceIte, Nat.reduceEqDiff, hf]), (FrT_wI (by decide) (FrT_wI (by decide) (FrT_wI (by decide) (FrT_wI (by decide) (FrT.refl _ _ _ _ _))))), NTx_same hN (by simp only [rI, rJI, rAI, rLI, rIJ, rIA, rJA, rLA, rIL, reduceIte, Nat.reduceEqDiff]) rfl rfl rfl rfl, Or.inl rfl⟩
