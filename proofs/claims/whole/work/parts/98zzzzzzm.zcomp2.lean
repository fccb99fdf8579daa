/-! COMPILING OF THE REFERENCE: a text (286), from its bytes -/
theorem bkR_X {own0 own : Nat → Nat × Nat} {B0 : Nat} {S0 S : cS} (h : bkR own0 B0 S0) (hF : FrX own0 S0 own S) : bkR own B0 S := by
  obtain ⟨b1, b2, gb, gl, ⟨b3, b4, b5⟩, ⟨b6, b7, b8⟩⟩ := h
  obtain ⟨l, hl⟩ := hF.2.2.2.2.1
  exact ⟨b1, b2, gb, gl, ⟨(hF.2.2.2.1 _ (by decide)).trans b3, isK_K hl b4, by rw [hF.2.2.2.2.2.2.2 _ (isK_lt b4)]; exact b5⟩, ⟨(hF.2.2.2.1 _ (by decide)).trans b6, isK_K hl b7, by rw [hF.2.2.2.2.2.2.2 _ (isK_lt b7)]; exact b8⟩⟩
section
variable {A : Nat → Int32} {n z d : Nat} {bj : Nat → Nat} {V W : Nat → Int64} {own0 : Nat → Nat × Nat} {S0 : cS} {N0 B0 H M : Nat} {T : Nat → Nat × Nat}
theorem comp_T {nn g0 g1 g3 g4 g5 gn : Nat} (hn : n ≤ 3000) (hfA : ∀ i, i < n → fits .byte (.int (A i)) = true) (hN0 : N0 ≤ 60000) (h86 : ∀ p t, p < 1500 → sQ S0 86 p = some t → 108 ≤ t ∧ t < 108 + (sS S0).length) (hR : RN own0 S0 nn g0 g1 g3 g4 g5 gn) (hgn : gn ≤ 64 + 2 * nn) (hnn : nn ≤ N0) (hft : ∀ i, fits .byte (.int (sA S0 g0 i)) = true) (hNM : NMv bj S0 V W z nn g0 g1 g3 g4 g5) (hO : OW own0 S0) (h107 : ∀ i, i < n → sA S0 107 i = A i) (hb : bkR own0 B0 S0) (hL : ∀ q, psT (qK (by1 A) n) (qL (by1 A) n) (qI (by1 A) n) (Eb (by1 A) n) = .inl q → q ≤ 3001) (hH : 13 * (n + 1) + 1 ≤ H ∧ H ≤ 40000) (hM : n + 1 ≤ M ∧ M ≤ 40000) (hd : 308 ≤ d + 10) : ∃ (k1 : Nat) (own : Nat → Nat × Nat) (nn1 f0 f1 f3 f4 f5 fn : Nat) (S1 Sf : cS) (ft : Nat), Ans (d + 11) 286 [.ref 61, .ref 107, .int (nI n)] S0 (some (.int (nI ft))) Sf ∧ (RN own S1 nn1 f0 f1 f3 f4 f5 fn ∧ fn ≤ 64 + 2 * nn1 ∧ nn1 ≤ N0 + (k1 + 1) ∧ (∀ i, fits .byte (.int (sA S1 f0 i)) = true) ∧ NMv bj S1 V W z nn1 f0 f1 f3 f4 f5 ∧ OW own S1 ∧ (∀ j, j ≤ k1 → rTk (by1 A) n S1 f0 f1 nn1 j) ∧ FrX own0 S0 own S1 ∧ (∀ i, i < n → sA S1 107 i = A i) ∧ mu S1 + 32 * gn = mu S0 + 32 * fn ∧ (sS S1).length + gn ≤ (sS S0).length + fn) ∧ eqV (Eb (by1 A) n) (qK (by1 A) n) (sA S1 68) ∧ zX (by1 A) n (sA S1 68) (own9 own (108 + (sS S1).length)) (108 + (sS S1).length) k1 (tc0 S1) ∧ ((∃ q, psT (qK (by1 A) n) (qL (by1 A) n) (qI (by1 A) n) (Eb (by1 A) n) = .inl q ∧ ft = flq q ∧ zTb (own9 own (108 + (sS S1).length)) (108 + (sS S1).length) 0 (tc0 S1) H B0 M Sf) ∨ ∃ x, psT (qK (by1 A) n) (qL (by1 A) n) (qI (by1 A) n) (Eb (by1 A) n) = .inr (x.1, x.2.1 ++ [(0, [], 0, 0)], x.2.2.1, []) ∧ ft = 0 ∧ zTg (by1 A) n (Eb (by1 A) n) (sA S1 68) T (own9 own (108 + (sS S1).length)) (108 + (sS S1).length) 0 k1 (tc0 S1) H B0 x Sf) := by
  obtain ⟨S1, k1, hA, hj, hK, own, nn1, f0, f1, f3, f4, f5, fn, r1, r2, r3, r4, r5, r6, r7, r8, r9, r10, r11, r12⟩ := lex_T (d := d) hn hfA hN0 (fun p t hp hq => (h86 p t hp hq).1) hR hgn hnn hft hNM hO h107
  have hk1 : k1 < 6001 := by
    have h1 := (q_idx hj).1
    have h2 := (q_lt (by1 A) n k1).1
    omega
  obtain ⟨l, hl⟩ := r9.2.2.2.2.1
  have hlen : (sS S1).length = (sS S0).length + l.length := by rw [hl, List.length_append]
  have hT : ∀ j, j ≤ k1 → rTk (by1 A) n S1 f0 f1 nn1 j := fun j hj' => r8 j (by omega)
  have hE := eqV_b hK hT r5 (by omega)
  obtain ⟨q1, q2, q3, q4, q5, q6, i0, i1, i3, i4, i5, qn, o64, o0, o1, o3, o4, o5⟩ := id r1
  obtain ⟨hX, Sf, ft, hB, hR2⟩ := cmp_17 (E := Eb (by1 A) n) (T := T) (d := d + 2) hn hK hj r6 (fun p t hp hq => by
    rw [r9.2.1] at hq
    have := h86 p t hp hq
    omega) (show nn1 ≤ 90000 by omega) (isK_lt i0) o0 (isK_lt i1) o1 hT (bkR_X hb r9) hE (eqR_b _ _) hL hH hM (by omega)
  exact ⟨k1, own, nn1, f0, f1, f3, f4, f5, fn, S1, Sf, ft, Ans.of (by rw [ml_286]; exact Nat.le_of_ble_eq_true rfl) (cp_0 hA (hB _ rfl)), ⟨r1, r2, r3, r4, r5, r6, hT, r9, r10, r11, r12⟩, hE, hX, hR2⟩
end
