/-! THE REFERENCE'S MACHINE: room for values and keys of a thing -/
/-- three arrays of a thing in longer ones -/
def grT (t f0 f1 f2 w n v2 v4 v5 : Nat) (S : cS) : cS := grL (100 * t + f2) w v5 n (grL (100 * t + f1) w v4 n (grI (100 * t + f0) 0 w v2 n S))
section
variable {d r t v2 v3 v4 v5 v6 v7 n m q w : Nat} {S : cS}
theorem rroom_0 (h : tRef S r t v2 v3 v4 v5 v6 v7 n m) (hq : q ≤ n) : Ans (d + 9) 376 [.ref t, .int (nI q)] S none S := by
  obtain ⟨h1, h2, ⟨N, h3⟩, h4, h5, h6, h7, h8, h9, k1, k2, k3, k4, k5, k6, hn, hm, hr⟩ := h
  exact Ans.of (by rw [ml_376]; exact Nat.le_of_ble_eq_true rfl) (Bod.lv (by rfl) (rRm_4 (zg := N) (by omega) h2 h3 h4 k1 hn hq))
theorem rkroom_0 (h : tRef S r t v2 v3 v4 v5 v6 v7 n m) (hq : q ≤ m) : Ans (d + 9) 378 [.ref t, .int (nI q)] S none S := by
  obtain ⟨h1, h2, ⟨N, h3⟩, h4, h5, h6, h7, h8, h9, k1, k2, k3, k4, k5, k6, hn, hm, hr⟩ := h
  exact Ans.of (by rw [ml_378]; exact Nat.le_of_ble_eq_true rfl) (Bod.lv (by rfl) (rKr_4 (zg := N) (by omega) h2 h3 h5 k2 hm hq))
theorem newL_S (n : Nat) (f : Nat → Int64) (S : cS) : sS (newL n f S) = sS S ++ [(1, n)] := rfl
theorem newI_S (t n : Nat) (f : Nat → Int32) (S : cS) : sS (newI t n f S) = sS S ++ [(t, n)] := rfl
theorem newL_V (n : Nat) (f : Nat → Int64) (S : cS) : sV (newL n f S) = sV S := rfl
theorem newI_V (t n : Nat) (f : Nat → Int32) (S : cS) : sV (newI t n f S) = sV S := rfl
theorem grT_S (t f0 f1 f2 w n v2 v4 v5 : Nat) (S : cS) : sS (grT t f0 f1 f2 w n v2 v4 v5 S) = sS S ++ [(0, w), (1, w), (1, w)] := by
  unfold grT
  rw [grL_S, grL_S, grI_S, List.append_assoc, List.append_assoc]
  rfl
theorem grI_e {id t n g N : Nat} {S : cS} : wV id (.ref (108 + (sS S).length)) (newI t n (cpI (sA S g) N) S) = grI id t n g N S := rfl
theorem grL_e {id n g N : Nat} {S : cS} : wV id (.ref (108 + (sS S).length)) (newL n (cpL (sL S g) N) S) = grL id n g N S := rfl
theorem rroom_w (h : tRef S r t v2 v3 v4 v5 v6 v7 n m) (hq : n < q) (hw : (q ≤ 32 ∧ w = 32) ∨ (32 < q ∧ q ≤ 304 ∧ w = 304)) : Ans (d + 9) 376 [.ref t, .int (nI q)] S none (grT t 2 4 5 w n v2 v4 v5 S) := by
  obtain ⟨h1, h2, ⟨N, h3⟩, h4, h5, h6, h7, h8, h9, k1, k2, k3, k4, k5, k6, hn, hm, hr⟩ := h
  have hnw : n < w := by omega
  have hw2 : w < 2 ^ 26 := by omega
  have a1 := copyOfI (d := d + 6) k1 hnw hw2
  have z2 : (sS (newI 0 w (cpI (sA S v2) n) S))[t - 108]? = some (13, N) := sS_old (newI_S _ _ _ _) h3
  have y4 : sV (newI 0 w (cpI (sA S v2) n) S) (100 * t + 4) = .ref v4 := by rw [newI_V]; exact h6
  have kk3 : isK (newI 0 w (cpI (sA S v2) n) S) v4 1 n := isK_K (newI_S _ _ _ _) k3
  have k3' : isK (grI (100 * t + 2) 0 w v2 n S) v4 1 n := grI_o k3
  have k4' : isK (grI (100 * t + 2) 0 w v2 n S) v5 1 n := grI_o k4
  have h7' : sV (grI (100 * t + 2) 0 w v2 n S) (100 * t + 5) = .ref v5 := by rw [grI_V, if_neg (by omega)]; exact h7
  have h3' : (sS (grI (100 * t + 2) 0 w v2 n S))[t - 108]? = some (13, N) := sS_old (grI_S _ _ _ _ _ _) h3
  have hlast : Bod (d + 8) 376 0 [(0, .ref t), (1, .int (nI q))] [] S none (grT t 2 4 5 w n v2 v4 v5 S) := by
    unfold grT
    generalize hX : grI (100 * t + 2) 0 w v2 n S = X at *
    have a2 := copyOfL (d := d + 6) k3' hnw hw2
    have z3 : (sS (newL w (cpL (sL X v4) n) X))[t - 108]? = some (13, N) := sS_old (newL_S _ _ _) h3'
    have y5 : sV (newL w (cpL (sL X v4) n) X) (100 * t + 5) = .ref v5 := by rw [newL_V]; exact h7'
    have kk4 : isK (newL w (cpL (sL X v4) n) X) v5 1 n := isK_K (newL_S _ _ _) k4'
    have k4'' : isK (grL (100 * t + 4) w v4 n X) v5 1 n := grL_o k4'
    have h3'' : (sS (grL (100 * t + 4) w v4 n X))[t - 108]? = some (13, N) := sS_old (grL_S _ _ _ _ _) h3'
    have eX : wV (100 * t + 2) (.ref (108 + (sS S).length)) (newI 0 w (cpI (sA S v2) n) S) = X := hX
    generalize hY : grL (100 * t + 4) w v4 n X = Y at *
    have eY : wV (100 * t + 4) (.ref (108 + (sS X).length)) (newL w (cpL (sL X v4) n) X) = Y := hY
    have a3 := copyOfL (d := d + 6) k4'' hnw hw2
    have z4 : (sS (newL w (cpL (sL Y v5) n) Y))[t - 108]? = some (13, N) := sS_old (newL_S _ _ _) h3''
    have c2 : Ans (d + 8) 186 [.ref v4, .int (nI w)] (wV (100 * t + 2) (.ref (108 + (sS S).length)) (newI 0 w (cpI (sA S v2) n) S)) (some (.ref (108 + (sS X).length))) (newL w (cpL (sL X v4) n) X) := by
      rw [eX]
      exact a2
    have c3 : Ans (d + 8) 186 [.ref v5, .int (nI w)] (wV (100 * t + 4) (.ref (108 + (sS X).length)) (newL w (cpL (sL X v4) n) X)) (some (.ref (108 + (sS Y).length))) (newL w (cpL (sL Y v5) n) Y) := by
      rw [eY]
      exact a3
    rw [← grL_e]
    clear a2 a3 eX eY hX hY
    generalize newI 0 w (cpI (sA S v2) n) S = S1 at *
    generalize newL w (cpL (sL X v4) n) X = S2 at *
    generalize newL w (cpL (sL Y v5) n) Y = S3 at *
    rcases hw with ⟨d1, rfl⟩ | ⟨d1, d2, rfl⟩
    · exact rRm_3 (zg := N) (by omega) h2 h3 h4 k1 hn hq d1 a1 z2 y4 kk3 hn c2 z3 y5 kk4 hn c3 z4
    · exact rRm_2 (zg := N) (by omega) h2 h3 h4 k1 hn hq d1 d2 a1 z2 y4 kk3 hn c2 z3 y5 kk4 hn c3 z4
  exact Ans.of (by rw [ml_376]; exact Nat.le_of_ble_eq_true rfl) (Bod.lv (by rfl) hlast)
end
