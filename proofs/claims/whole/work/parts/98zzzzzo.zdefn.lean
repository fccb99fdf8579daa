/-! STATEMENTS OF THE REFERENCE: a code gets one more function (337) -/
section
variable {own : Nat → Nat × Nat} {d m u k N : Nat} {x : Int32} {S : cS}
theorem cdef_fin {own1 : Nat → Nat × Nat} {N1 : Nat} {S1 : cS} (h : RCd own1 m u k N1 S1) (hk : k < 2 ^ 18) (hlt : k < N1) : (∀ lv : sm_L, sm_get lv 0 = some (.ref m) → sm_get lv 1 = some (.int x) → Bod (d + 8) 337 80 lv [] S1 (some (.int (nI k))) (wI (100 * m + 11) (nI (k + 1)) (wA (vR S1 (100 * m + 7)) k x S1))) ∧ RCd own1 m u (k + 1) N1 (wI (100 * m + 11) (nI (k + 1)) (wA (vR S1 (100 * m + 7)) k x S1)) ∧ (∀ i, i < k → dNm (wI (100 * m + 11) (nI (k + 1)) (wA (vR S1 (100 * m + 7)) k x S1)) m i = dNm S1 m i ∧ dAt (wI (100 * m + 11) (nI (k + 1)) (wA (vR S1 (100 * m + 7)) k x S1)) m i = dAt S1 m i ∧ dPa (wI (100 * m + 11) (nI (k + 1)) (wA (vR S1 (100 * m + 7)) k x S1)) m i = dPa S1 m i ∧ dLo (wI (100 * m + 11) (nI (k + 1)) (wA (vR S1 (100 * m + 7)) k x S1)) m i = dLo S1 m i) ∧ dNm (wI (100 * m + 11) (nI (k + 1)) (wA (vR S1 (100 * m + 7)) k x S1)) m k = x ∧ FrO own1 [30] [] [100 * m + 11] [] S1 (wI (100 * m + 11) (nI (k + 1)) (wA (vR S1 (100 * m + 7)) k x S1)) := by
  obtain ⟨m1, m2, d1, d2, d3, d4, g7, g8, g9, g10, ⟨a7, b7, c7⟩, ⟨a8, b8, c8⟩, ⟨a9, b9, c9⟩, ⟨a10, b10, c10⟩⟩ := h
  rw [vR_eq a7]
  obtain ⟨S2, hS2⟩ : ∃ S2, S2 = wI (100 * m + 11) (nI (k + 1)) (wA g7 k x S1) := ⟨_, rfl⟩
  have eA : ∀ g, g ≠ g7 → sA S2 g = sA S1 g := fun g hg => by rw [hS2]; exact rAn _ _ _ hg
  have e7 : ∀ i, sA S2 g7 i = if i = k then x else sA S1 g7 i := fun i => by
    rw [hS2]
    show (if g7 = g7 then upd (sA S1 g7) k x else sA S1 g7) i = _
    rw [if_pos rfl, upd_at]
  have n8 : g8 ≠ g7 := fun e => by rw [e, c7] at c8; cases c8
  have n9 : g9 ≠ g7 := fun e => by rw [e, c7] at c9; cases c9
  have n10 : g10 ≠ g7 := fun e => by rw [e, c7] at c10; cases c10
  have v7 : sV S2 (100 * m + 7) = .ref g7 := by rw [hS2]; exact a7
  have v8 : sV S2 (100 * m + 8) = .ref g8 := by rw [hS2]; exact a8
  have v9 : sV S2 (100 * m + 9) = .ref g9 := by rw [hS2]; exact a9
  have v10 : sV S2 (100 * m + 10) = .ref g10 := by rw [hS2]; exact a10
  have hB : ∀ lv : sm_L, sm_get lv 0 = some (.ref m) → sm_get lv 1 = some (.int x) → Bod (d + 8) 337 80 lv [] S1 (some (.int (nI k))) S2 := fun lv q0 q1 => by
    rw [hS2]
    exact zCe_1 (d := d) m1 q0 q1 m2 a7 b7 (by omega) d1 (by omega) hlt (by omega)
  rw [← hS2]
  have sS2 : sS S2 = sS S1 := by rw [hS2]; rfl
  refine ⟨hB, ⟨m1, by rw [sS2]; exact m2, by rw [hS2]; exact rIe _ _ _, by omega, d3, by omega, g7, g8, g9, g10, ⟨v7, isK_S sS2 b7, c7⟩, ⟨v8, isK_S sS2 b8, c8⟩, ⟨v9, isK_S sS2 b9, c9⟩, ⟨v10, isK_S sS2 b10, c10⟩⟩, fun i hi => ⟨?_, ?_, ?_, ?_⟩, ?_, ⟨by rw [hS2]; rfl, by rw [hS2]; rfl, fun i hi => ?_, fun i _ => by rw [hS2]; rfl, ⟨[], by rw [sS2, List.append_nil]⟩, fun a _ ha => eA a (fun e => ha (by rw [e, c7]; decide)), fun a _ _ => by rw [hS2]; rfl⟩⟩
  · unfold dNm; rw [vR_eq v7, vR_eq a7, e7, if_neg (by omega)]
  · unfold dAt; rw [vR_eq v8, vR_eq a8, eA g8 n8]
  · unfold dPa; rw [vR_eq v9, vR_eq a9, eA g9 n9]
  · unfold dLo; rw [vR_eq v10, vR_eq a10, eA g10 n10]
  · unfold dNm; rw [vR_eq v7, e7, if_pos rfl]
  · rw [hS2]
    exact rIn _ _ (fun e => hi (by rw [e]; exact List.mem_singleton.mpr rfl))
theorem cdef_T (h : RCd own m u k N S) (hk : k < 2 ^ 18) : ∃ S' own' N', Ans (d + 9) 337 [.ref m, .int x] S (some (.int (nI k))) S' ∧ RCd own' m u (k + 1) N' S' ∧ (∀ i, i < k → dNm S' m i = dNm S m i ∧ dAt S' m i = dAt S m i ∧ dPa S' m i = dPa S m i ∧ dLo S' m i = dLo S m i) ∧ dNm S' m k = x ∧ FrO own [30] [] [100 * m + 11] [100 * m + 7, 100 * m + 8, 100 * m + 9, 100 * m + 10] S S' ∧ (∀ a, a < 108 + (sS S).length → own' a = own a) ∧ mu S' + 8 * N = mu S + 8 * N' ∧ (sS S').length + N ≤ (sS S).length + N' := by
  obtain ⟨m1, m2, d1, d2, d3, d4, g7, g8, g9, g10, ⟨a7, b7, c7⟩, ⟨a8, b8, c8⟩, ⟨a9, b9, c9⟩, ⟨a10, b10, c10⟩⟩ := id h
  have ml : ∀ {v' : Option Value} {Sf : cS}, Bod (d + 8) 337 0 [(0, .ref m), (1, .int x)] [] S v' Sf → Ans (d + 9) 337 [.ref m, .int x] S v' Sf := fun p => Ans.of (by rw [ml_337]; exact Nat.le_of_ble_eq_true rfl) p
  by_cases hlt : k < N
  · obtain ⟨hB, r1, r2, r3, r4⟩ := cdef_fin (d := d) (x := x) h hk hlt
    refine ⟨_, own, N, ml (zCd_1 (d := d) m1 m2 d1 (by omega) a7 b7 (by omega) (by omega) hB), r1, r2, r3, ⟨r4.1, r4.2.1, r4.2.2.1, fun i _ => r4.2.2.2.1 i (fun e => by cases e), r4.2.2.2.2.1, r4.2.2.2.2.2.1, r4.2.2.2.2.2.2⟩, fun _ _ => rfl, rfl, Nat.le_refl _⟩
  obtain rfl : k = N := by omega
  have l7 := isK_lt b7
  have l8 := isK_lt b8
  have l9 := isK_lt b9
  have l10 := isK_lt b10
  obtain ⟨S1, hS1⟩ : ∃ S1, S1 = grI (100 * m + 7) 0 (2 * k) g7 k S := ⟨_, rfl⟩
  have q1 : (sS S1).length = (sS S).length + 1 := by rw [hS1]; exact grI_len
  obtain ⟨S2, hS2⟩ : ∃ S2, S2 = grI (100 * m + 8) 0 (2 * k) g8 k S1 := ⟨_, rfl⟩
  have q2 : (sS S2).length = (sS S).length + 2 := by rw [hS2, grI_len, q1]
  obtain ⟨S3, hS3⟩ : ∃ S3, S3 = grI (100 * m + 9) 0 (2 * k) g9 k S2 := ⟨_, rfl⟩
  have q3 : (sS S3).length = (sS S).length + 3 := by rw [hS3, grI_len, q2]
  obtain ⟨S4, hS4⟩ : ∃ S4, S4 = grI (100 * m + 10) 0 (2 * k) g10 k S3 := ⟨_, rfl⟩
  have q4 : (sS S4).length = (sS S).length + 4 := by rw [hS4, grI_len, q3]
  have c1 := copyOfI (d := d + 6) (n := 2 * k) b7 (by omega) (by omega)
  have b81 : isK S1 g8 0 k := by rw [hS1]; exact grI_o b8
  have b91 : isK S1 g9 0 k := by rw [hS1]; exact grI_o b9
  have b101 : isK S1 g10 0 k := by rw [hS1]; exact grI_o b10
  have n71 : isK S1 (108 + (sS S).length) 0 (2 * k) := by rw [hS1]; exact grI_k
  have c2 := copyOfI (d := d + 6) (n := 2 * k) b81 (by omega) (by omega)
  have b92 : isK S2 g9 0 k := by rw [hS2]; exact grI_o b91
  have b102 : isK S2 g10 0 k := by rw [hS2]; exact grI_o b101
  have n72 : isK S2 (108 + (sS S).length) 0 (2 * k) := by rw [hS2]; exact grI_o n71
  have n82 : isK S2 (108 + (sS S1).length) 0 (2 * k) := by rw [hS2]; exact grI_k
  have c3 := copyOfI (d := d + 6) (n := 2 * k) b92 (by omega) (by omega)
  have b103 : isK S3 g10 0 k := by rw [hS3]; exact grI_o b102
  have n73 : isK S3 (108 + (sS S).length) 0 (2 * k) := by rw [hS3]; exact grI_o n72
  have n83 : isK S3 (108 + (sS S1).length) 0 (2 * k) := by rw [hS3]; exact grI_o n82
  have n93 : isK S3 (108 + (sS S2).length) 0 (2 * k) := by rw [hS3]; exact grI_k
  have c4 := copyOfI (d := d + 6) (n := 2 * k) b103 (by omega) (by omega)
  have n74 : isK S4 (108 + (sS S).length) 0 (2 * k) := by rw [hS4]; exact grI_o n73
  have n84 : isK S4 (108 + (sS S1).length) 0 (2 * k) := by rw [hS4]; exact grI_o n83
  have n94 : isK S4 (108 + (sS S2).length) 0 (2 * k) := by rw [hS4]; exact grI_o n93
  have n104 : isK S4 (108 + (sS S3).length) 0 (2 * k) := by rw [hS4]; exact grI_k
  have i4 : ∀ i, sI S4 i = sI S i := fun i => by rw [hS4, grI_I, hS3, grI_I, hS2, grI_I, hS1, grI_I]
  have v4 : ∀ i, sV S4 i = if i = 100 * m + 10 then .ref (108 + (sS S3).length) else if i = 100 * m + 9 then .ref (108 + (sS S2).length) else if i = 100 * m + 8 then .ref (108 + (sS S1).length) else if i = 100 * m + 7 then .ref (108 + (sS S).length) else sV S i := fun i => by rw [hS4, grI_V, hS3, grI_V, hS2, grI_V, hS1, grI_V]
  have aA : ∀ a, sA S4 a = if a = 108 + (sS S3).length then cpI (sA S g10) k else if a = 108 + (sS S2).length then cpI (sA S g9) k else if a = 108 + (sS S1).length then cpI (sA S g8) k else if a = 108 + (sS S).length then cpI (sA S g7) k else sA S a := fun a => by
    have x1 : ∀ g, sA S1 g = if g = 108 + (sS S).length then cpI (sA S g7) k else sA S g := fun g => by rw [hS1]; exact grI_A _ _ _ _ _ _ _
    have x2 : ∀ g, sA S2 g = if g = 108 + (sS S1).length then cpI (sA S1 g8) k else sA S1 g := fun g => by rw [hS2]; exact grI_A _ _ _ _ _ _ _
    have x3 : ∀ g, sA S3 g = if g = 108 + (sS S2).length then cpI (sA S2 g9) k else sA S2 g := fun g => by rw [hS3]; exact grI_A _ _ _ _ _ _ _
    have x4 : ∀ g, sA S4 g = if g = 108 + (sS S3).length then cpI (sA S3 g10) k else sA S3 g := fun g => by rw [hS4]; exact grI_A _ _ _ _ _ _ _
    have y8 : sA S1 g8 = sA S g8 := by rw [x1, if_neg (by omega)]
    have y9 : sA S2 g9 = sA S g9 := by rw [x2, if_neg (by omega), x1, if_neg (by omega)]
    have y10 : sA S3 g10 = sA S g10 := by rw [x3, if_neg (by omega), x2, if_neg (by omega), x1, if_neg (by omega)]
    rw [x4, y10, x3, y9, x2, y8, x1]
  have s4 : sS S4 = sS S ++ [(0, 2 * k), (0, 2 * k), (0, 2 * k), (0, 2 * k)] := by
    rw [hS4, grI_S, hS3, grI_S, hS2, grI_S, hS1, grI_S]
    simp only [List.append_assoc, List.cons_append, List.nil_append]
  have m24 : (sS S4)[m - 108]? = some (12, u) := sS_old s4 m2
  have v7 : sV S4 (100 * m + 7) = .ref (108 + (sS S).length) := by rw [v4, if_neg (by omega), if_neg (by omega), if_neg (by omega), if_pos rfl]
  have v8 : sV S4 (100 * m + 8) = .ref (108 + (sS S1).length) := by rw [v4, if_neg (by omega), if_neg (by omega), if_pos rfl]
  have v9 : sV S4 (100 * m + 9) = .ref (108 + (sS S2).length) := by rw [v4, if_neg (by omega), if_pos rfl]
  have v10 : sV S4 (100 * m + 10) = .ref (108 + (sS S3).length) := by rw [v4, if_pos rfl]
  have hF4 : FrO own [] [] [] [100 * m + 7, 100 * m + 8, 100 * m + 9, 100 * m + 10] S S4 := by
    refine ⟨by rw [hS4, grI_J, hS3, grI_J, hS2, grI_J, hS1, grI_J], by rw [hS4, grI_Q, hS3, grI_Q, hS2, grI_Q, hS1, grI_Q], fun i _ => i4 i, fun i hi => ?_, ⟨_, s4⟩, fun a ha _ => ?_, fun a _ _ => by rw [hS4, grI_L, hS3, grI_L, hS2, grI_L, hS1, grI_L]⟩
    · simp only [List.mem_cons, List.not_mem_nil, or_false, not_or] at hi
      rw [v4, if_neg hi.2.2.2, if_neg hi.2.2.1, if_neg hi.2.1, if_neg hi.1]
    · rw [aA, if_neg (by omega), if_neg (by omega), if_neg (by omega), if_neg (by omega)]
  obtain ⟨own4, ho4⟩ : ∃ own4 : Nat → Nat × Nat, own4 = fun a => if a = 108 + (sS S3).length then (33, 0) else if a = 108 + (sS S2).length then (32, 0) else if a = 108 + (sS S1).length then (31, 0) else if a = 108 + (sS S).length then (30, 0) else own a := ⟨_, rfl⟩
  have hog : ∀ a, a < 108 + (sS S).length → own4 a = own a := fun a ha => by
    rw [ho4]
    dsimp only
    rw [if_neg (by omega), if_neg (by omega), if_neg (by omega), if_neg (by omega)]
  have o7 : (own4 (108 + (sS S).length)).1 = 30 := by
    rw [ho4]; dsimp only
    rw [if_neg (by omega), if_neg (by omega), if_neg (by omega), if_pos rfl]
  have o8 : (own4 (108 + (sS S1).length)).1 = 31 := by
    rw [ho4]; dsimp only
    rw [if_neg (by omega), if_neg (by omega), if_pos rfl]
  have o9 : (own4 (108 + (sS S2).length)).1 = 32 := by
    rw [ho4]; dsimp only
    rw [if_neg (by omega), if_pos rfl]
  have o10 : (own4 (108 + (sS S3).length)).1 = 33 := by
    rw [ho4]; dsimp only
    rw [if_pos rfl]
  have h4 : RCd own4 m u k (2 * k) S4 := ⟨m1, m24, (i4 _).trans d1, by omega, by omega, by omega, _, _, _, _, ⟨v7, n74, o7⟩, ⟨v8, n84, o8⟩, ⟨v9, n94, o9⟩, ⟨v10, n104, o10⟩⟩
  have hk4 : ∀ i, i < k → dNm S4 m i = dNm S m i ∧ dAt S4 m i = dAt S m i ∧ dPa S4 m i = dPa S m i ∧ dLo S4 m i = dLo S m i := fun i hi => by
    unfold dNm dAt dPa dLo
    rw [vR_eq v7, vR_eq v8, vR_eq v9, vR_eq v10, vR_eq a7, vR_eq a8, vR_eq a9, vR_eq a10]
    refine ⟨?_, ?_, ?_, ?_⟩
    · rw [aA, if_neg (by omega), if_neg (by omega), if_neg (by omega), if_pos rfl, cpI_at hi]
    · rw [aA, if_neg (by omega), if_neg (by omega), if_pos rfl, cpI_at hi]
    · rw [aA, if_neg (by omega), if_pos rfl, cpI_at hi]
    · rw [aA, if_pos rfl, cpI_at hi]
  obtain ⟨hB, r1, r2, r3, r4⟩ := cdef_fin (d := d) (x := x) h4 hk (by omega)
  have mu4 : mu S4 = mu S + 8 * k := by rw [hS4, grI_m, hS3, grI_m, hS2, grI_m, hS1, grI_m]; omega
  obtain ⟨Sf, hSf⟩ : ∃ Sf, Sf = wI (100 * m + 11) (nI (k + 1)) (wA (vR S4 (100 * m + 7)) k x S4) := ⟨_, rfl⟩
  have muf : mu Sf = mu S4 := by rw [hSf]; rfl
  have slf : (sS Sf).length = (sS S4).length := by rw [hSf]; rfl
  rw [← hSf] at hB r1 r2 r3 r4
  refine ⟨Sf, own4, 2 * k, ml ?_, r1, fun i hi => ?_, r3, FrO_go (own := own4) (A := [30]) (L := []) (LI := [100 * m + 11]) (LV := [100 * m + 7, 100 * m + 8, 100 * m + 9, 100 * m + 10]) ⟨hF4.1, hF4.2.1, fun i _ => hF4.2.2.1 i (fun e => by cases e), hF4.2.2.2.1, hF4.2.2.2.2.1, fun a ha _ => hF4.2.2.2.2.2.1 a ha (fun e => by cases e), hF4.2.2.2.2.2.2⟩ r4 hog (fun _ e => e) (fun _ e => e) (fun _ e => e) (fun _ e => by cases e), hog, by rw [muf, mu4]; omega, by rw [slf, q4]; omega⟩
  · have m21 : (sS (grI (100 * m + 7) 0 (2 * k) g7 k S))[m - 108]? = some (12, u) := sS_old (l := [(0, 2 * k)]) rfl m2
    have m22 : (sS (grI (100 * m + 8) 0 (2 * k) g8 k (grI (100 * m + 7) 0 (2 * k) g7 k S)))[m - 108]? = some (12, u) := sS_old (l := [(0, 2 * k)]) rfl m21
    have m23 : (sS (grI (100 * m + 9) 0 (2 * k) g9 k (grI (100 * m + 8) 0 (2 * k) g8 k (grI (100 * m + 7) 0 (2 * k) g7 k S))))[m - 108]? = some (12, u) := sS_old (l := [(0, 2 * k)]) rfl m22
    have w81 : sV (grI (100 * m + 7) 0 (2 * k) g7 k S) (100 * m + 8) = .ref g8 := (if_neg (by omega)).trans a8
    have w91 : sV (grI (100 * m + 7) 0 (2 * k) g7 k S) (100 * m + 9) = .ref g9 := (if_neg (by omega)).trans a9
    have w92 : sV (grI (100 * m + 8) 0 (2 * k) g8 k (grI (100 * m + 7) 0 (2 * k) g7 k S)) (100 * m + 9) = .ref g9 := (if_neg (by omega)).trans w91
    have w101 : sV (grI (100 * m + 7) 0 (2 * k) g7 k S) (100 * m + 10) = .ref g10 := (if_neg (by omega)).trans a10
    have w102 : sV (grI (100 * m + 8) 0 (2 * k) g8 k (grI (100 * m + 7) 0 (2 * k) g7 k S)) (100 * m + 10) = .ref g10 := (if_neg (by omega)).trans w101
    have w103 : sV (grI (100 * m + 9) 0 (2 * k) g9 k (grI (100 * m + 8) 0 (2 * k) g8 k (grI (100 * m + 7) 0 (2 * k) g7 k S))) (100 * m + 10) = .ref g10 := (if_neg (by omega)).trans w102
    rw [hS3, hS2, hS1] at b103 c4
    rw [hS2, hS1] at b92 c3
    rw [hS1] at b81 c2
    rw [hS4, hS3, hS2, hS1] at hB
    exact zCd_2 (d := d) (n11 := k) (n111 := k) (n112 := k) (n113 := k) (N := k) (N1 := k) (N2 := k) (N3 := k) (g := g7) (g1 := g8) (g2 := g9) (g3 := g10) (z := 108 + (sS S).length) (z1 := 108 + (sS (grI (100 * m + 7) 0 (2 * k) g7 k S)).length) (z2 := 108 + (sS (grI (100 * m + 8) 0 (2 * k) g8 k (grI (100 * m + 7) 0 (2 * k) g7 k S))).length) (z3 := 108 + (sS (grI (100 * m + 9) 0 (2 * k) g9 k (grI (100 * m + 8) 0 (2 * k) g8 k (grI (100 * m + 7) 0 (2 * k) g7 k S)))).length) (S1 := (newI 0 (2 * k) (cpI (sA S g7) k) S)) (S2 := (newI 0 (2 * k) (cpI (sA (grI (100 * m + 7) 0 (2 * k) g7 k S) g8) k) (grI (100 * m + 7) 0 (2 * k) g7 k S))) (S3 := (newI 0 (2 * k) (cpI (sA (grI (100 * m + 8) 0 (2 * k) g8 k (grI (100 * m + 7) 0 (2 * k) g7 k S)) g9) k) (grI (100 * m + 8) 0 (2 * k) g8 k (grI (100 * m + 7) 0 (2 * k) g7 k S)))) (S4 := (newI 0 (2 * k) (cpI (sA (grI (100 * m + 9) 0 (2 * k) g9 k (grI (100 * m + 8) 0 (2 * k) g8 k (grI (100 * m + 7) 0 (2 * k) g7 k S))) g10) k) (grI (100 * m + 9) 0 (2 * k) g9 k (grI (100 * m + 8) 0 (2 * k) g8 k (grI (100 * m + 7) 0 (2 * k) g7 k S))))) m1 m2 d1 (by omega) a7 b7 (by omega) rfl c1 m21 a8 (isK_K (l := [(0, 2 * k)]) rfl b8) (by omega) d1 (by omega) c2 m22 w91 (isK_K (l := [(0, 2 * k)]) rfl (isK_K (l := [(0, 2 * k)]) rfl b9)) (by omega) d1 (by omega) c3 m23 w102 (isK_K (l := [(0, 2 * k)]) rfl (isK_K (l := [(0, 2 * k)]) rfl (isK_K (l := [(0, 2 * k)]) rfl b10))) (by omega) d1 (by omega) c4 (sS_old (l := [(0, 2 * k)]) rfl m23) hB
  · obtain ⟨z1, z2, z3, z4⟩ := r2 i hi
    obtain ⟨w1, w2, w3, w4⟩ := hk4 i hi
    exact ⟨z1.trans w1, z2.trans w2, z3.trans w3, z4.trans w4⟩
end
