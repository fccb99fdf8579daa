/-! A TEXT in the class: its parse as a whole against the pure parser -/
section
variable {A : Nat → Int32} {n z0 d : Nat} {S0 : cS}
theorem parse_T {fb a c : Nat} {S : cS} (hX : yPre A n S0 z0) (h : yG A n S0 z0 fb a 0 0 0 sc0 [] a c 0 S) (h8 : sI S 4308 = nI 0) (h9 : sI S 4309 = Int32.ofInt (-1)) (h6 : sI S 4306 = nI c) (h7 : sI S 4307 = nI fb) (hz : yZ (rem (by1 A) n 0) 0 a c 0 0 1 fb) (hd : 366 ≤ d + 14) : ∃ S1, Ans (d + 13) 51 [.ref 43, .int (nI 0), .int (nI 0)] S none S1 ∧
    ((∃ (x : PT) (at1 : List Nat) (S2 S3 : cS) (z : Nat), psT (qK (by1 A) n) (qL (by1 A) n) (qI (by1 A) n) (Eb (by1 A) n) = .inr x ∧ Ans (d + 13) 122 [.ref 43, .int (nI a)] S1 (some (.int 1)) S3 ∧ yOK A n S0 z0 fb a 0 0 S a c 0 (x.1, x.2.1, x.2.2.1, at1) S2 ∧ FrT [] [] [24, 29, 39] [] S2 S3 ∧ (∀ i, i < a → sA S3 24 i = sA S2 24 i) ∧ (∀ i, i < fb → sA S3 29 i = sA S2 29 i) ∧ sI S3 1607 = nI z ∧ z ≤ 4096 ∧ lsF x.2.2.1 (by1 A) n S3 z (c + cnN x.2.1) fb a x.2.1 ∧ sSE fb x.2.2.1 x.2.2.1.2.length S3) ∨
    (∃ (l : Nat) (S2 : cS), psT (qK (by1 A) n) (qL (by1 A) n) (qI (by1 A) n) (Eb (by1 A) n) = .inl l ∧ Ans (d + 13) 122 [.ref 43, .int (nI a)] S1 (some (.int 0)) (wI 2309 (nI fb) (wI 2308 (nI c) (wI 2307 (nI a) S2))) ∧ yB A n S0 z0 fb l a c 0 0 (a + 2) [] 40421 5184 1563 1563 280 893 S S2)) := by
  obtain ⟨S1, i1, i2, i3⟩ := top_T (d := d + 4) hX h h8 h9 hz (by omega)
  obtain ⟨z1, z2, z3, z4, z5, z6⟩ := hz
  refine ⟨S1, i1, ?_⟩
  cases hr : psA A n 60000 1 0 0 0 none 0 0 0 sc0 [] 0 with
  | inl l =>
    obtain ⟨S2, S3, j1, j2, rfl⟩ := fin_B (d := d + 4) (i3 l hr) (by show 40420 + 1 ≤ _; omega) (by omega) (by omega) (by omega) h6 h7
    refine Or.inr ⟨l, S2, ?_, j1, yB_le j2 (by show 40420 + 1 ≤ _; omega) (by show 5160 + 24 ≤ _; omega) (by show 1515 + 48 ≤ _; omega) (by show 1515 + 48 ≤ _; omega) (Nat.le_refl _) (Nat.le_refl _)⟩
    have hr2 : ps (qK (by1 A) n) (qL (by1 A) n) (qI (by1 A) n) (Eb (by1 A) n) 60000 1 0 0 0 none 0 0 0 ([(0, 0, 0, 0)], []) [] 0 = .inl l := hr
    unfold psT
    rw [hr2]
    rfl
  | inr x =>
    have hr2 : ps (qK (by1 A) n) (qL (by1 A) n) (qI (by1 A) n) (Eb (by1 A) n) 60000 1 0 0 0 none 0 0 0 ([(0, 0, 0, 0)], []) [] 0 = .inr x := hr
    have hY := i2 x hr
    have hK := ps_end 60000 _ _ _ _ _ _ _ hr2
    obtain ⟨_, hpn⟩ := ps_N 60000 _ _ _ _ _ _ _ _ _ _ _ _ (show 0 < 1 by omega) hr2
    obtain ⟨_, r1, ⟨n1, n2, _⟩, _⟩ := (ps_H (by1 A) n (Eb (by1 A) n) 60000).2.1 1 _ _ _ _ _ _ _ _ _ _ _ (Or.inl rfl) (fun h => absurd rfl h) hr2
    have n1' : wC x.2.1 + 0 + x.2.2.2.length ≤ 3 * (rem (by1 A) n 0 - rem (by1 A) n x.1) + 0 := n1
    obtain ⟨k1, os, sc, at1⟩ := x
    dsimp only at hK hpn n1' r1
    obtain ⟨S2, S3, z, j1, j2, j3, j4, j5, j6, j7, j8, j9⟩ := fin_G (d := d) hY (by omega) (by omega) hpn
    refine Or.inl ⟨(k1, os ++ [(0, [], 0, 0)], sc, []), at1, S2, S3, z, ?_, j1, j2, j3, j4, j5, j6, j7, j8, j9⟩
    unfold psT
    rw [hr2]
    rfl
end
