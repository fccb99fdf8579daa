/-! BLOCKS of the class's statements: the head of one; whether a line is still within -/
section
variable {A : Nat → Int32} {n z0 fb a0 s ab d : Nat} {S0 B : cS}
theorem ind_lt {k : Nat} (hn : n ≤ 3000) : qI (by1 A) n k < 2 ^ 20 := by
  have hq := q_lt (by1 A) n k
  omega
theorem ins_T {a c f k i : Nat} {sc : SCs} {at' : List Nat} {S : cS} (hn : n ≤ 3000) (h : yG A n S0 z0 fb a0 s ab k sc at' a c f S) (hi : i < 2 ^ 20) : Ans (d + 9) 52 [.ref 43, .int (nI i)] S (some (.int (if qK (by1 A) n k ≠ 0 ∧ qK (by1 A) n k ≠ 1 ∧ qI (by1 A) n k = i then nI 1 else nI 0))) S := by
  have h5 := cP_5 h.1
  have h8 := cP_8 h.1
  have hq := q_lt (by1 A) n k
  by_cases k0 : qK (by1 A) n k = 0
  · rw [if_neg (fun hc => hc.1 k0)]
    exact Ans.of (by rw [ml_52]; exact Nat.le_of_ble_eq_true rfl) (Bod.lv (by rfl) (cIns_1 (d := d) hi h5 (by omega) k0))
  by_cases k1 : qK (by1 A) n k = 1
  · rw [if_neg (fun hc => hc.2.1 k1)]
    exact Ans.of (by rw [ml_52]; exact Nat.le_of_ble_eq_true rfl) (Bod.lv (by rfl) (cIns_2 (d := d) hi h5 (by omega) k0 k1))
  by_cases ki : qI (by1 A) n k = i
  · rw [if_pos ⟨k0, k1, ki⟩]
    exact Ans.of (by rw [ml_52]; exact Nat.le_of_ble_eq_true rfl) (Bod.lv (by rfl) (cIns_4 (d := d) (ind := i) hi h5 (by omega) k0 k1 ((h8.2 k1).trans (congrArg nI ki)) hi rfl))
  · rw [if_neg (fun hc => ki hc.2.2)]
    exact Ans.of (by rw [ml_52]; exact Nat.le_of_ble_eq_true rfl) (Bod.lv (by rfl) (cIns_3 (d := d) hi h5 (by omega) k0 k1 (h8.2 k1) (ind_lt hn) ki))
theorem nK_id {k : Nat} {S : cS} (h : cP A n S0 z0 k S) : nK S S := cP_nK h rfl (fun _ _ => rfl)
/-- the head of a block: a colon, a line, more of an indent -/
theorem opn_T {a c f k o dp qa qc qf qe : Nat} {os : List Op} {sc : SCs} {at' : List Nat} {S : cS} (hX : yPre A n S0 z0) (h : yOK A n S0 z0 fb a0 s ab B a c f (k, os, sc, at') S) (ho : o < 2 ^ 20) (hdp : dp < 2 ^ 20) (ha : a + wC os ≤ qa) (hc : c + cnN os ≤ qc) (hf : f + fxM os ≤ qf) (he : sc.2.length ≤ qe) (hs : sc.1.length ≤ 280) (hfn : fb + sc.1.length ≤ 894) : (qK (by1 A) n k = 13 ∧ qK (by1 A) n (k + 1) = 2 ∧ qK (by1 A) n (k + 2) ≠ 1 ∧ qK (by1 A) n (k + 2) ≠ 0 ∧ o < qI (by1 A) n (k + 2) ∧ dp ≤ 10 ∧ ∃ S1, Ans (d + 9) 85 [.ref 43, .int (nI o), .int (nI dp)] S (some (.int (nI 1))) S1 ∧ yOK A n S0 z0 fb a0 s ab B a c f (k + 2, os, sc, at') S1) ∨ ∃ S1 l, Ans (d + 9) 85 [.ref 43, .int (nI o), .int (nI dp)] S (some (.int (nI 0))) S1 ∧ yB A n S0 z0 fb l a c f ab (a + 2) [] qa qc qf qe 280 893 B S1 ∧ ((¬ (qK (by1 A) n k = 13 ∧ qK (by1 A) n (k + 1) = 2) ∧ l = qL (by1 A) n k) ∨ (qK (by1 A) n k = 13 ∧ qK (by1 A) n (k + 1) = 2 ∧ (qK (by1 A) n (k + 2) = 1 ∨ qK (by1 A) n (k + 2) = 0 ∨ qI (by1 A) n (k + 2) ≤ o ∨ 10 < dp) ∧ l = qL (by1 A) n (k + 2))) := by
  have hbad : ∀ {l : Nat} {S1 S2 : cS}, Ans (d + 8) 75 [.ref 31, .int (nI 13)] S none S1 → Ans (d + 8) 86 [.ref 31] S1 none S2 → yB A n S0 z0 fb l a c f ab (a + 2) [] qa qc qf qe 280 893 B S2 → ∃ S3, Ans (d + 9) 85 [.ref 43, .int (nI o), .int (nI dp)] S (some (.int (nI 0))) S3 ∧ yB A n S0 z0 fb l a c f ab (a + 2) [] qa qc qf qe 280 893 B S3 := fun {l S1 S2} p1 q1 q2 => by
    obtain ⟨S3, r1, r2⟩ := yB_fail (d := d + 7) q2
    obtain ⟨t, c', f', s, e, sn, fn, av, tv, lv, l', h1, h2, h3, h4, h5, h6, h7', h8, h9, hfl, hlo, g1, g2, g3, g4, g5, g6, g7, g8, g9, g10⟩ := yB_top q2
    rcases h9 with h9 | ⟨i, h9, h9M⟩
    · exact ⟨S3, Ans.of (by rw [ml_85]; exact Nat.le_of_ble_eq_true rfl) (Bod.lv (by rfl) (cOpn_7 (d := d) (tk := 0) ho hdp p1 q1 h9 r1 (yB_5 r2) (by omega) rfl)), r2⟩
    · by_cases hio : i ≤ o
      · exact ⟨S3, Ans.of (by rw [ml_85]; exact Nat.le_of_ble_eq_true rfl) (Bod.lv (by rfl) (cOpn_1 (d := d) (tk := 0) ho hdp p1 q1 h9 (by omega) hio r1 (yB_5 r2) (by omega) rfl)), r2⟩
      by_cases hd : dp ≤ 10
      · exact ⟨S2, Ans.of (by rw [ml_85]; exact Nat.le_of_ble_eq_true rfl) (Bod.lv (by rfl) (cOpn_3 (d := d) (tk := 0) ho hdp p1 q1 h9 (by omega) (by omega) hd (yB_5 q2) (by omega) rfl)), q2⟩
      · exact ⟨S3, Ans.of (by rw [ml_85]; exact Nat.le_of_ble_eq_true rfl) (Bod.lv (by rfl) (cOpn_5 (d := d) (tk := 0) ho hdp p1 q1 h9 (by omega) (by omega) (by omega) r1 (yB_5 r2) (by omega) rfl)), r2⟩
  by_cases k13 : qK (by1 A) n k = 13
  · obtain ⟨S1, p1, p2, p3, p4⟩ := pass_O (d := d) hX.1 h k13 (by omega)
    obtain ⟨g1, g2, g3, g4⟩ := rm_gt (β := by1 A) (n := n) (k := k) (by omega)
    by_cases k2 : qK (by1 A) n (k + 1) = 2
    · obtain ⟨S2, q1, q2, q3, q4⟩ := nextLine_T (d := d + 2) hX.1 p2.1.1 k2
      have q5 : yOK A n S0 z0 fb a0 s ab B a c f (k + 2, os, sc, at') S2 := yOK_lx p2 q2 q3 q4
      have h8 := cP_8 (k := k + 2) q5.1.1
      by_cases k0 : qK (by1 A) n (k + 2) = 0
      · obtain ⟨S3, r1, r2⟩ := hbad p1 q1 (yRes_bad hX.1.1 q5 (cP_B hX.1 q5.1.1 k0) (FrT.refl _ _ _ _ _) (nK_id q5.1.1) ha hc hf he hs hfn)
        exact Or.inr ⟨S3, _, r1, r2, Or.inr ⟨k13, k2, Or.inr (Or.inl k0), rfl⟩⟩
      have hfl : (qK (by1 A) n (k + 2) = 1 ∨ qI (by1 A) n (k + 2) ≤ o ∨ 10 < dp) → ∃ S3, Ans (d + 8) 44 [.ref 31] S2 none S3 ∧ yB A n S0 z0 fb (qL (by1 A) n (k + 2)) a c f ab (a + 2) [] qa qc qf qe 280 893 B S3 := fun _ => fail_X (d := d) hX.1 hX.2 q5 ha hc hf he hs hfn
      by_cases k1 : qK (by1 A) n (k + 2) = 1
      · obtain ⟨S3, r1, r2⟩ := hfl (Or.inl k1)
        exact Or.inr ⟨S3, _, Ans.of (by rw [ml_85]; exact Nat.le_of_ble_eq_true rfl) (Bod.lv (by rfl) (cOpn_7 (d := d) (tk := 0) ho hdp p1 q1 (h8.1 k1) r1 (yB_5 r2) (by omega) rfl)), r2, Or.inr ⟨k13, k2, Or.inl k1, rfl⟩⟩
      have hi := h8.2 k1
      have hiM := ind_lt (A := A) (k := k + 2) hX.1.1
      by_cases hio : qI (by1 A) n (k + 2) ≤ o
      · obtain ⟨S3, r1, r2⟩ := hfl (Or.inr (Or.inl hio))
        exact Or.inr ⟨S3, _, Ans.of (by rw [ml_85]; exact Nat.le_of_ble_eq_true rfl) (Bod.lv (by rfl) (cOpn_1 (d := d) (tk := 0) ho hdp p1 q1 hi hiM hio r1 (yB_5 r2) (by omega) rfl)), r2, Or.inr ⟨k13, k2, Or.inr (Or.inr (Or.inl hio)), rfl⟩⟩
      by_cases hd : dp ≤ 10
      · have hq := q_lt (by1 A) n (k + 2)
        exact Or.inl ⟨k13, k2, k1, k0, by omega, hd, S2, Ans.of (by rw [ml_85]; exact Nat.le_of_ble_eq_true rfl) (Bod.lv (by rfl) (cOpn_4 (d := d) ho hdp p1 q1 hi hiM (by omega) hd (cP_5 (k := k + 2) q5.1.1) (by omega) k0)), q5⟩
      · obtain ⟨S3, r1, r2⟩ := hfl (Or.inr (Or.inr (by omega)))
        exact Or.inr ⟨S3, _, Ans.of (by rw [ml_85]; exact Nat.le_of_ble_eq_true rfl) (Bod.lv (by rfl) (cOpn_5 (d := d) (tk := 0) ho hdp p1 q1 hi hiM (by omega) (by omega) r1 (yB_5 r2) (by omega) rfl)), r2, Or.inr ⟨k13, k2, Or.inr (Or.inr (Or.inr (by omega))), rfl⟩⟩
    · obtain ⟨S2, q1, q2, q3, q4⟩ := nextLine_F (d := d + 6) hX.1 hX.2 p2.1.1 k2
      obtain ⟨S3, r1, r2⟩ := hbad p1 q1 (yRes_bad hX.1.1 p2 q2 q3 q4 ha hc hf he hs hfn)
      exact Or.inr ⟨S3, _, r1, r2, Or.inl ⟨fun hc => k2 hc.2, g3⟩⟩
  · obtain ⟨S1, p1, p2⟩ := pass_X (d := d) (t := 13) hX.1 hX.2 h k13 (by omega) ha hc hf he hs hfn
    obtain ⟨S2, q1, q2⟩ := yB_nl (d := d + 6) p2
    obtain ⟨S3, r1, r2⟩ := hbad p1 q1 q2
    exact Or.inr ⟨S3, _, r1, r2, Or.inl ⟨fun hc => k13 hc.1, rfl⟩⟩
end
