/-! THE REFERENCE'S MACHINE: room for keys of a thing -/
section
variable {d r t v2 v3 v4 v5 v6 v7 n m q w : Nat} {S : cS}
theorem rkroom_w (h : tRef S r t v2 v3 v4 v5 v6 v7 n m) (hq : m < q) (hw : (q ≤ 32 ∧ w = 32) ∨ (32 < q ∧ q ≤ 104 ∧ w = 104)) : Ans (d + 9) 378 [.ref t, .int (nI q)] S none (grT t 3 6 7 w m v3 v6 v7 S) := by
  obtain ⟨h1, h2, ⟨N, h3⟩, h4, h5, h6, h7, h8, h9, k1, k2, k3, k4, k5, k6, hn, hm, hr⟩ := h
  have hnw : m < w := by omega
  have hw2 : w < 2 ^ 26 := by omega
  have a1 := copyOfI (d := d + 6) k2 hnw hw2
  have z2 : (sS (newI 0 w (cpI (sA S v3) m) S))[t - 108]? = some (13, N) := sS_old (newI_S _ _ _ _) h3
  have y4 : sV (newI 0 w (cpI (sA S v3) m) S) (100 * t + 6) = .ref v6 := by rw [newI_V]; exact h8
  have kk3 : isK (newI 0 w (cpI (sA S v3) m) S) v6 1 m := isK_K (newI_S _ _ _ _) k5
  have k3' : isK (grI (100 * t + 3) 0 w v3 m S) v6 1 m := grI_o k5
  have k4' : isK (grI (100 * t + 3) 0 w v3 m S) v7 1 m := grI_o k6
  have h7' : sV (grI (100 * t + 3) 0 w v3 m S) (100 * t + 7) = .ref v7 := by rw [grI_V, if_neg (by omega)]; exact h9
  have h3' : (sS (grI (100 * t + 3) 0 w v3 m S))[t - 108]? = some (13, N) := sS_old (grI_S _ _ _ _ _ _) h3
  have hlast : Bod (d + 8) 378 0 [(0, .ref t), (1, .int (nI q))] [] S none (grT t 3 6 7 w m v3 v6 v7 S) := by
    unfold grT
    generalize hX : grI (100 * t + 3) 0 w v3 m S = X at *
    have a2 := copyOfL (d := d + 6) k3' hnw hw2
    have z3 : (sS (newL w (cpL (sL X v6) m) X))[t - 108]? = some (13, N) := sS_old (newL_S _ _ _) h3'
    have y5 : sV (newL w (cpL (sL X v6) m) X) (100 * t + 7) = .ref v7 := by rw [newL_V]; exact h7'
    have kk4 : isK (newL w (cpL (sL X v6) m) X) v7 1 m := isK_K (newL_S _ _ _) k4'
    have k4'' : isK (grL (100 * t + 6) w v6 m X) v7 1 m := grL_o k4'
    have h3'' : (sS (grL (100 * t + 6) w v6 m X))[t - 108]? = some (13, N) := sS_old (grL_S _ _ _ _ _) h3'
    have eX : wV (100 * t + 3) (.ref (108 + (sS S).length)) (newI 0 w (cpI (sA S v3) m) S) = X := hX
    generalize hY : grL (100 * t + 6) w v6 m X = Y at *
    have eY : wV (100 * t + 6) (.ref (108 + (sS X).length)) (newL w (cpL (sL X v6) m) X) = Y := hY
    have a3 := copyOfL (d := d + 6) k4'' hnw hw2
    have z4 : (sS (newL w (cpL (sL Y v7) m) Y))[t - 108]? = some (13, N) := sS_old (newL_S _ _ _) h3''
    have c2 : Ans (d + 8) 186 [.ref v6, .int (nI w)] (wV (100 * t + 3) (.ref (108 + (sS S).length)) (newI 0 w (cpI (sA S v3) m) S)) (some (.ref (108 + (sS X).length))) (newL w (cpL (sL X v6) m) X) := by
      rw [eX]
      exact a2
    have c3 : Ans (d + 8) 186 [.ref v7, .int (nI w)] (wV (100 * t + 6) (.ref (108 + (sS X).length)) (newL w (cpL (sL X v6) m) X)) (some (.ref (108 + (sS Y).length))) (newL w (cpL (sL Y v7) m) Y) := by
      rw [eY]
      exact a3
    rw [← grL_e]
    clear a2 a3 eX eY hX hY
    generalize newI 0 w (cpI (sA S v3) m) S = S1 at *
    generalize newL w (cpL (sL X v6) m) X = S2 at *
    generalize newL w (cpL (sL Y v7) m) Y = S3 at *
    rcases hw with ⟨d1, rfl⟩ | ⟨d1, d2, rfl⟩
    · exact rKr_3 (zg := N) (by omega) h2 h3 h5 k2 hm hq d1 a1 z2 y4 kk3 hm c2 z3 y5 kk4 hm c3 z4
    · exact rKr_2 (zg := N) (by omega) h2 h3 h5 k2 hm hq d1 d2 a1 z2 y4 kk3 hm c2 z3 y5 kk4 hm c3 z4
  exact Ans.of (by rw [ml_378]; exact Nat.le_of_ble_eq_true rfl) (Bod.lv (by rfl) hlast)
end
