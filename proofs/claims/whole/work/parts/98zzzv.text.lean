/-! A TEXT in the class, from before its begin to its end -/
section
variable {n z0 d : Nat}
theorem bgS_L (c fb : Nat) (S : cS) : sL (bgS c fb S) = sL S := funext fun x => (bgS_F c fb S).2.2.2.1 x (fun h => by cases h)
theorem bgS_A (c fb : Nat) (S : cS) : sA (bgS c fb S) = sA S := funext fun x => (bgS_F c fb S).2.2.1 x (fun h => by cases h)
theorem bgS_NT {c fb z : Nat} {S : cS} (h : c_NT S z) : NTx S z (bgS c fb S) z := NTx_same h ((bgS_F c fb S).1 _ (by decide)) (by rw [bgS_L]) (by rw [bgS_L]) (by rw [bgS_A]) (by rw [bgS_A])
theorem bgS_NB {c fb z B' : Nat} {S : cS} (h : NB B' S z) : NB B' (bgS c fb S) z := by
  obtain ⟨U, m, h1, h2, h3, h4, h5⟩ := h
  refine ⟨U, m, h1, h2, fun b hb => ?_, h4, h5⟩
  obtain ⟨i, i1, i2⟩ := h3 b hb
  refine ⟨i, i1, ?_⟩
  unfold c_is at i2 ⊢
  rw [bgS_L]
  exact i2
theorem bgS_X {c fb z B' : Nat} {A : Nat → Int32} {S : cS} (hn : n ≤ 3000) (h35 : 35 ≤ z) (hN : c_NT S z) (hW : Wd S) (hB : NB B' S z) (hb : B' + n + 2 ≤ 11900) : pX A n (bgS c fb S) z ∧ c_NT (bgS c fb S) z := by
  have hx := bgS_NT (c := c) (fb := fb) hN
  exact ⟨pX_of hn h35 (Wd_x hW (by omega) hx) (bgS_NB hB) hb, hx.2.1⟩
theorem rem_n (β : Nat → Nat) (n k : Nat) : rem β n k ≤ n + 1 := by
  have h1 := q_ind β n k
  have h2 := q_lt β n k
  unfold rem
  split <;> omega
/-- the class parses a text: begin 33, statements 51, end 122 -/
theorem text_T {a c fb lt B' : Nat} {S : cS} (h7 : sI S 2307 = nI a) (h8 : sI S 2308 = nI c) (h9 : sI S 2309 = nI fb) (hlt : sI S 4311 = nI lt) (hlt2 : lt ≤ 100) (hn : n ≤ 3000) (h35 : 35 ≤ z0) (hN : c_NT S z0) (hW : Wd S) (hB : NB B' S z0) (hb : B' + n + 2 ≤ 11900) (ha : a + 3 * (n + 1) ≤ 39000) (hc : 2 * c + (n + 1) ≤ 10300) (hf : 23 * fb + 2 * (n + 1) ≤ 20480) (hd : 366 ≤ d + 14) : ∃ S1 S2, Ans (d + 13) 33 [.ref 43, .int (nI n)] S (some (.int (nI a))) S1 ∧ Ans (d + 13) 51 [.ref 43, .int (nI 0), .int (nI 0)] S1 none S2 ∧ yG (sA S 1) n (bgS c fb S) z0 fb a 0 0 0 sc0 [] a c 0 S1 ∧ FrT lyI lxJ [19, 20] [17, 18] (bgS c fb S) S1 ∧ nK (bgS c fb S) S1 ∧
    ((∃ (x : PT) (at1 : List Nat) (S3 S4 : cS) (z : Nat), psT (qK (by1 (sA S 1)) n) (qL (by1 (sA S 1)) n) (qI (by1 (sA S 1)) n) (Eb (by1 (sA S 1)) n) = .inr x ∧ Ans (d + 13) 122 [.ref 43, .int (nI a)] S2 (some (.int 1)) S4 ∧ yOK (sA S 1) n (bgS c fb S) z0 fb a 0 0 S1 a c 0 (x.1, x.2.1, x.2.2.1, at1) S3 ∧ FrT [] [] [24, 29, 39] [] S3 S4 ∧ (∀ i, i < a → sA S4 24 i = sA S3 24 i) ∧ (∀ i, i < fb → sA S4 29 i = sA S3 29 i) ∧ sI S4 1607 = nI z ∧ z ≤ 4096 ∧ lsF x.2.2.1 (by1 (sA S 1)) n S4 z (c + cnN x.2.1) fb a x.2.1 ∧ sSE fb x.2.2.1 x.2.2.1.2.length S4) ∨
    (∃ (l : Nat) (S3 : cS), psT (qK (by1 (sA S 1)) n) (qL (by1 (sA S 1)) n) (qI (by1 (sA S 1)) n) (Eb (by1 (sA S 1)) n) = .inl l ∧ Ans (d + 13) 122 [.ref 43, .int (nI a)] S2 (some (.int 0)) (wI 2309 (nI fb) (wI 2308 (nI c) (wI 2307 (nI a) S3))) ∧ yB (sA S 1) n (bgS c fb S) z0 fb l a c 0 0 (a + 2) [] 40421 5184 1563 1563 280 893 S1 S3)) := by
  obtain ⟨hX, hN2⟩ := bgS_X (A := sA S 1) (c := c) (fb := fb) hn h35 hN hW hB hb
  obtain ⟨S1, p1, p2, p3, p4⟩ := beg_T (d := d + 4) (by omega) h7 h8 h9 hlt hlt2 hX rfl hN2 (by omega) (by omega) (by omega)
  obtain ⟨b0, b1, b2, b3, b4, b5, b6, b7, b8, b9⟩ := bgS_I c fb S
  by_cases h1 : qK (by1 (sA S 1)) n 0 = 1
  · obtain ⟨e1, e2⟩ := empty_T (d := d) hX p2 h1 (by omega)
    exact ⟨S1, S1, p1, e1, p2, p3, p4, Or.inl e2⟩
  · have hr := rem_n (by1 (sA S 1)) n 0
    obtain ⟨S2, e1, e2⟩ := parse_T (d := d) ⟨hX, h1⟩ p2 ((p3.1 _ (by decide)).trans b8) ((p3.1 _ (by decide)).trans b9) ((p3.1 _ (by decide)).trans b6) ((p3.1 _ (by decide)).trans b7) ⟨by omega, by omega, by omega, by omega, by omega, by omega⟩ hd
    exact ⟨S1, S2, p1, e1, p2, p3, p4, e2⟩
end
