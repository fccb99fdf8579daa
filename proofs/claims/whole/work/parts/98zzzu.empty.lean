/-! A TEXT in the class that has no token: nothing but END is put; every text -/
section
variable {A : Nat → Int32} {n z0 d : Nat} {S0 : cS}
theorem empty_T {fb a c : Nat} {S : cS} (hX : pX A n S0 z0) (h : yG A n S0 z0 fb a 0 0 0 sc0 [] a c 0 S) (h1 : qK (by1 A) n 0 = 1) (ha : a + 1 ≤ 40960) : Ans (d + 13) 51 [.ref 43, .int (nI 0), .int (nI 0)] S none S ∧
    ∃ (x : PT) (at1 : List Nat) (S2 S3 : cS) (z : Nat), psT (qK (by1 A) n) (qL (by1 A) n) (qI (by1 A) n) (Eb (by1 A) n) = .inr x ∧ Ans (d + 13) 122 [.ref 43, .int (nI a)] S (some (.int 1)) S3 ∧ yOK A n S0 z0 fb a 0 0 S a c 0 (x.1, x.2.1, x.2.2.1, at1) S2 ∧ FrT [] [] [24, 29, 39] [] S2 S3 ∧ (∀ i, i < a → sA S3 24 i = sA S2 24 i) ∧ (∀ i, i < fb → sA S3 29 i = sA S2 29 i) ∧ sI S3 1607 = nI z ∧ z ≤ 4096 ∧ lsF x.2.2.1 (by1 A) n S3 z (c + cnN x.2.1) fb a x.2.1 ∧ sSE fb x.2.2.1 x.2.2.1.2.length S3 := by
  have h8 := cP_8 h.1
  have hin := ins_T (d := d + 2) hX.1 h (i := 0) (by omega)
  rw [if_neg (fun hc => hc.2.1 h1)] at hin
  have hY := yOK_nil h
  obtain ⟨S2, S3, z, j1, j2, j3, j4, j5, j6, j7, j8, j9⟩ := fin_G (d := d) hY (by omega) (show a + 0 + 1 ≤ _ by omega) (fun o ho => by cases ho)
  refine ⟨Ans.of (by rw [ml_51]; exact Nat.le_of_ble_eq_true rfl) (Bod.lv (by rfl) (cPar0_1 (d := d + 4) (i := 0) (dp := 0) (by omega) (by omega) (fun lv1 q0 q1 q2 q3 => cParL_7 (d := d + 4) (t := 0) q3 q0 q1 q2 (by omega) (by omega) (by omega) (by omega) (Ans.up (by omega) hin) (h8.1 h1)))), (0, [] ++ [(0, [], 0, 0)], sc0, []), [], S2, S3, z, ?_, j1, j2, j3, j4, j5, j6, j7, j8, j9⟩
  have e : ps (qK (by1 A) n) (qL (by1 A) n) (qI (by1 A) n) (Eb (by1 A) n) 60000 1 0 0 0 none 0 0 0 ([(0, 0, 0, 0)], []) [] 0 = .inr (0, [], sc0, []) := by
    show psQ (qK (by1 A) n) (qL (by1 A) n) (qI (by1 A) n) (ps (qK (by1 A) n) (qL (by1 A) n) (qI (by1 A) n) (Eb (by1 A) n) 59999) 0 1 0 0 0 none 0 0 0 ([(0, 0, 0, 0)], []) [] 0 = _
    unfold psQ
    rw [if_pos (Or.inl h1)]
    rfl
  unfold psT
  rw [e]
  rfl
end
