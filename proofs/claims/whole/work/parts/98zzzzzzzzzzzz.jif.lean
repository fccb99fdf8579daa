/-! FLOW ON BOTH SIDES: jumps that look at the topmost value (5 | 12, 6 | 13, 7 | 14) -/
section
variable {d n m q q' t : Nat} {Sr : cS} {e2 : Int32}
/-- two words stand in one code -/
theorem rw_S2 {a1 : Int32} (hw : rwS Sr m q a1) (hw2 : rwS Sr m (q + 1) e2) : ∃ a N zm, 108 ≤ m ∧ (sS Sr)[m - 108]? = some (12, zm) ∧ sV Sr (100 * m + 0) = .ref a ∧ isK Sr a 0 N ∧ N < 2 ^ 20 ∧ q + 1 < N ∧ sA Sr a q = a1 ∧ sA Sr a (q + 1) = e2 := by
  obtain ⟨a0, N0, zm0, h1', h2', h3', h4', h5', h6', h7', h8'⟩ := hw
  obtain ⟨a, N, zm, h1, h2, h3, h4, hN, h6, h7, h8⟩ := hw2
  have ea : a0 = a := Value.ref.inj (h3'.symm.trans h3)
  subst ea
  exact ⟨a0, N, zm, h1, h2, h3, h4, hN, h7, h8', h8⟩
theorem rcj_12t (hX : tpS Sr n m q) (hr : n ≤ 30) (hw : rwS Sr m q (nI 12)) (ht : sI Sr 6151 = nI t) (t1 : 1 ≤ t) (t2 : t < 20481) (hA : Ans (d + 8) 359 [.ref 61, .int (nI (t - 1))] (wI 6151 (nI (t - 1)) Sr) (some (.int 1)) (wI 6151 (nI (t - 1)) Sr)) : Ans (d + 9) 350 [.ref 61] Sr (some (.int 1)) (wA 95 n (nI (q + 2)) (wI 6151 (nI (t - 1)) Sr)) := by
  have m350 := ml_350
  obtain ⟨u1, u2, u3, u4⟩ := hX
  obtain ⟨a, N, zm, w1, w2, w3, w4, w5, w6, w7, w8⟩ := hw
  have hb := rOn_15 (d := d) u1 (by omega) (by omega) u2 u3 w1 u4 w2 w3 w4 w5 w7 w8 (by omega) rfl ht t2 t1 hA
  rw [Nat.add_sub_cancel] at hb
  exact Ans.of (by rw [m350]; exact Nat.le_of_ble_eq_true rfl) (Bod.lv (by rfl) hb)
theorem rcj_12f (hX : tpS Sr n m q) (hr : n ≤ 30) (hw : rwS Sr m q (nI 12)) (hw2 : rwS Sr m (q + 1) e2) (he : nI (q + 1) + e2 = nI q') (ht : sI Sr 6151 = nI t) (t1 : 1 ≤ t) (t2 : t < 20481) (hA : Ans (d + 8) 359 [.ref 61, .int (nI (t - 1))] (wI 6151 (nI (t - 1)) Sr) (some (.int 0)) (wI 6151 (nI (t - 1)) Sr)) : Ans (d + 9) 350 [.ref 61] Sr (some (.int 1)) (wA 95 n (nI q') (wI 6151 (nI (t - 1)) Sr)) := by
  have m350 := ml_350
  obtain ⟨u1, u2, u3, u4⟩ := hX
  obtain ⟨a, N, zm, w1, w2, w3, w4, w5, w7, w8, w9⟩ := rw_S2 hw hw2
  have hb := rOn_16 (d := d) u1 (by omega) (by omega) u2 u3 w1 u4 w2 w3 w4 w5 (by omega) w8 (by omega) rfl ht t2 t1 hA w7 w4
  rw [Nat.add_sub_cancel] at hb
  have e9 : sA (wI 6151 (nI (t - 1)) Sr) a (q + 1) = e2 := w9
  rw [e9, he] at hb
  exact Ans.of (by rw [m350]; exact Nat.le_of_ble_eq_true rfl) (Bod.lv (by rfl) hb)
theorem rcj_13t (hX : tpS Sr n m q) (hr : n ≤ 30) (hw : rwS Sr m q (nI 13)) (ht : sI Sr 6151 = nI t) (t1 : 1 ≤ t) (t2 : t < 20481) (hA : Ans (d + 8) 359 [.ref 61, .int (nI (t - 1))] Sr (some (.int 1)) Sr) : Ans (d + 9) 350 [.ref 61] Sr (some (.int 1)) (wA 95 n (nI (q + 2)) (wI 6151 (nI (t - 1)) Sr)) := by
  have m350 := ml_350
  obtain ⟨u1, u2, u3, u4⟩ := hX
  obtain ⟨a, N, zm, w1, w2, w3, w4, w5, w6, w7, w8⟩ := hw
  have hb := rOn_17 (d := d) u1 (by omega) (by omega) u2 u3 w1 u4 w2 w3 w4 w5 w7 w8 (by omega) rfl ht t2 t1 hA (by omega) ht t2 t1
  rw [Nat.add_sub_cancel] at hb
  exact Ans.of (by rw [m350]; exact Nat.le_of_ble_eq_true rfl) (Bod.lv (by rfl) hb)
theorem rcj_13f (hX : tpS Sr n m q) (hr : n ≤ 30) (hw : rwS Sr m q (nI 13)) (hw2 : rwS Sr m (q + 1) e2) (he : nI (q + 1) + e2 = nI q') (ht : sI Sr 6151 = nI t) (t1 : 1 ≤ t) (t2 : t < 20481) (hA : Ans (d + 8) 359 [.ref 61, .int (nI (t - 1))] Sr (some (.int 0)) Sr) : Ans (d + 9) 350 [.ref 61] Sr (some (.int 1)) (wA 95 n (nI q') Sr) := by
  have m350 := ml_350
  obtain ⟨u1, u2, u3, u4⟩ := hX
  obtain ⟨a, N, zm, w1, w2, w3, w4, w5, w7, w8, w9⟩ := rw_S2 hw hw2
  have hb := rOn_19 (d := d) u1 (by omega) (by omega) u2 u3 w1 u4 w2 w3 w4 w5 (by omega) w8 (by omega) rfl ht t2 t1 hA (by omega) w7 w4
  rw [Nat.add_sub_cancel] at hb
  rw [w9, he] at hb
  exact Ans.of (by rw [m350]; exact Nat.le_of_ble_eq_true rfl) (Bod.lv (by rfl) hb)
theorem rcj_14t (hX : tpS Sr n m q) (hr : n ≤ 30) (hw : rwS Sr m q (nI 14)) (hw2 : rwS Sr m (q + 1) e2) (he : nI (q + 1) + e2 = nI q') (ht : sI Sr 6151 = nI t) (t1 : 1 ≤ t) (t2 : t < 20481) (hA : Ans (d + 8) 359 [.ref 61, .int (nI (t - 1))] Sr (some (.int 1)) Sr) : Ans (d + 9) 350 [.ref 61] Sr (some (.int 1)) (wA 95 n (nI q') Sr) := by
  have m350 := ml_350
  obtain ⟨u1, u2, u3, u4⟩ := hX
  obtain ⟨a, N, zm, w1, w2, w3, w4, w5, w7, w8, w9⟩ := rw_S2 hw hw2
  have hb := rOn_22 (d := d) u1 (by omega) (by omega) u2 u3 w1 u4 w2 w3 w4 w5 (by omega) w8 (by omega) rfl ht t2 t1 hA rfl w7 w4
  rw [Nat.add_sub_cancel] at hb
  rw [w9, he] at hb
  exact Ans.of (by rw [m350]; exact Nat.le_of_ble_eq_true rfl) (Bod.lv (by rfl) hb)
theorem rcj_14f (hX : tpS Sr n m q) (hr : n ≤ 30) (hw : rwS Sr m q (nI 14)) (ht : sI Sr 6151 = nI t) (t1 : 1 ≤ t) (t2 : t < 20481) (hA : Ans (d + 8) 359 [.ref 61, .int (nI (t - 1))] Sr (some (.int 0)) Sr) : Ans (d + 9) 350 [.ref 61] Sr (some (.int 1)) (wA 95 n (nI (q + 2)) (wI 6151 (nI (t - 1)) Sr)) := by
  have m350 := ml_350
  obtain ⟨u1, u2, u3, u4⟩ := hX
  obtain ⟨a, N, zm, w1, w2, w3, w4, w5, w6, w7, w8⟩ := hw
  have hb := rOn_24 (d := d) u1 (by omega) (by omega) u2 u3 w1 u4 w2 w3 w4 w5 w7 w8 (by omega) rfl ht t2 t1 hA rfl ht t2 t1
  rw [Nat.add_sub_cancel] at hb
  exact Ans.of (by rw [m350]; exact Nat.le_of_ble_eq_true rfl) (Bod.lv (by rfl) hb)
end
