/-! THE REFERENCE'S MACHINE: a value is put into a thing, onto the stack; a key is looked for -/
theorem lgne_F {x : Int64} : sm_c1 .ne (lg_cmp x x) true false = false := k1_ne_F (cmp_eq rfl)
theorem lgne_T {x y : Int64} (h : x ≠ y) : sm_c1 .ne (lg_cmp x y) true false = true := k1_ne_T (cmp_ne h)
section
variable {d r t v2 v3 v4 v5 v6 v7 n m k z : Nat} {S : cS} {kd : Int32} {xa xb : Int64}
theorem rset_T (h : tRef S r t v2 v3 v4 v5 v6 v7 n m) (hk : k < n) : Ans (d + 9) 358 [.ref t, .int (nI k), .int kd, .long xa, .long xb] S none (wL v5 k xb (wL v4 k xa (wA v2 k kd S))) := by
  obtain ⟨h1, h2, ⟨N, h3⟩, h4, h5, h6, h7, h8, h9, k1, k2, k3, k4, k5, k6, hn, hm, hr⟩ := h
  exact Ans.of (by rw [ml_358]; exact Nat.le_of_ble_eq_true rfl) (Bod.lv (by rfl) (rSe_1 (zg := N) (by omega) h2 h3 h4 k1 hn hk h6 k3 hn hk h7 k4 hn hk))
theorem rpush_T (ht : sI S 6151 = nI t) (hb : t < 20480) : Ans (d + 9) 352 [.ref 61, .int kd, .long xa, .long xb] S none (wI 6151 (nI (t + 1)) (wL 93 t xb (wL 92 t xa (wA 91 t kd S)))) :=
  Ans.of (by rw [ml_352]; exact Nat.le_of_ble_eq_true rfl) (Bod.lv (by rfl) (rPu_1 ht (by omega) hb))
/-- the key at j is the one that is looked for -/
def kyE (S : cS) (v3 v6 v7 : Nat) (kd : Int32) (xa xb : Int64) (j : Nat) : Prop := sA S v3 j = kd ∧ sL S v6 j = xa ∧ sL S v7 j = xb
theorem rfind_turn {lv : sm_L} {ni : Nat} {v : Option Value} {Sf : cS} (h : tRef S r t v2 v3 v4 v5 v6 v7 n m) (hz : sI S (100 * t + 1) = nI z) (hzm : z ≤ m) (hk : ∃ e, e < 2 ^ 20 ∧ sA S v3 ni = nI e) (hni : ni < z) (hne : ¬ kyE S v3 v6 v7 kd xa xb ni) (q0 : sm_get lv 0 = some (.ref t)) (q1 : sm_get lv 1 = some (.int kd)) (q2 : sm_get lv 2 = some (.long xa)) (q4 : sm_get lv 4 = some (.long xb)) (q6 : sm_get lv 6 = some (.int (nI ni))) (hB : ∀ lv1 : sm_L, sm_get lv1 0 = some (.ref t) → sm_get lv1 1 = some (.int kd) → sm_get lv1 2 = some (.long xa) → sm_get lv1 4 = some (.long xb) → sm_get lv1 6 = some (.int (nI (ni + 1))) → Bod (d + 8) 399 3 lv1 [] S v Sf) : Bod (d + 8) 399 3 lv [] S v Sf := by
  obtain ⟨h1, h2, ⟨N, h3⟩, h4, h5, h6, h7, h8, h9, k1, k2, k3, k4, k5, k6, hn, hm, hr⟩ := h
  obtain ⟨e, he, hee⟩ := hk
  by_cases c1 : nI e = kd
  · by_cases c2 : sL S v6 ni = xa
    · have c3 : sL S v7 ni ≠ xb := fun c => hne ⟨hee.trans c1, c2, c⟩
      exact rFiL_3 (zg := N) q0 q1 q2 q4 q6 (by omega) h2 h3 hz (by omega) hni h5 k2 hm (by omega) hee he c1 h8 k5 hm (by omega) (by rw [c2]; exact lgne_F) h9 k6 hm (by omega) (lgne_T c3) hB
    · exact rFiL_2 (zg := N) q0 q1 q2 q4 q6 (by omega) h2 h3 hz (by omega) hni h5 k2 hm (by omega) hee he c1 h8 k5 hm (by omega) (lgne_T c2) hB
  · exact rFiL_5 (zg := N) q0 q1 q2 q4 q6 (by omega) h2 h3 hz (by omega) hni h5 k2 hm (by omega) hee he c1 hB
theorem rfind_hit {i : Nat} (h : tRef S r t v2 v3 v4 v5 v6 v7 n m) (hz : sI S (100 * t + 1) = nI z) (hzm : z ≤ m) (hk : ∀ j, j < z → ∃ e, e < 2 ^ 20 ∧ sA S v3 j = nI e) (hi : i < z) (he : kyE S v3 v6 v7 kd xa xb i) (hne : ∀ j, j < i → ¬ kyE S v3 v6 v7 kd xa xb j) : Ans (d + 9) 399 [.ref t, .int kd, .long xa, .long xb] S (some (.int (nI i))) S := by
  have L : ∀ (q ni : Nat), ni + q = i → ∀ lv : sm_L, sm_get lv 0 = some (.ref t) → sm_get lv 1 = some (.int kd) → sm_get lv 2 = some (.long xa) → sm_get lv 4 = some (.long xb) → sm_get lv 6 = some (.int (nI ni)) → Bod (d + 8) 399 3 lv [] S (some (.int (nI i))) S := by
    intro q
    induction q with
    | zero =>
      intro ni hni lv q0 q1 q2 q4 q6
      obtain rfl : ni = i := by omega
      obtain ⟨h1, h2, ⟨N, h3⟩, h4, h5, h6, h7, h8, h9, k1, k2, k3, k4, k5, k6, hn, hm, hr⟩ := h
      obtain ⟨e, he1, hee⟩ := hk ni hi
      exact rFiL_4 (zg := N) q0 q1 q2 q4 q6 (by omega) h2 h3 hz (by omega) hi h5 k2 hm (by omega) hee he1 (hee.symm.trans he.1) h8 k5 hm (by omega) (by rw [he.2.1]; exact lgne_F) h9 k6 hm (by omega) (by rw [he.2.2]; exact lgne_F)
    | succ q ih =>
      intro ni hni lv q0 q1 q2 q4 q6
      exact rfind_turn h hz hzm (hk ni (by omega)) (by omega) (hne ni (by omega)) q0 q1 q2 q4 q6 (fun lv1 p0 p1 p2 p4 p6 => ih (ni + 1) (by omega) lv1 p0 p1 p2 p4 p6)
  exact Ans.of (by rw [ml_399]; exact Nat.le_of_ble_eq_true rfl) (Bod.lv (by rfl) (rFi_1 (zg := 0) h.2.1 (fun lv1 p0 p1 p2 p4 p6 => L i 0 (by omega) lv1 p0 p1 p2 p4 p6)))
theorem rfind_miss (h : tRef S r t v2 v3 v4 v5 v6 v7 n m) (hz : sI S (100 * t + 1) = nI z) (hzm : z ≤ m) (hk : ∀ j, j < z → ∃ e, e < 2 ^ 20 ∧ sA S v3 j = nI e) (hne : ∀ j, j < z → ¬ kyE S v3 v6 v7 kd xa xb j) : Ans (d + 9) 399 [.ref t, .int kd, .long xa, .long xb] S (some (.int (Int32.ofInt (-1)))) S := by
  have L : ∀ (q ni : Nat), ni + q = z → ∀ lv : sm_L, sm_get lv 0 = some (.ref t) → sm_get lv 1 = some (.int kd) → sm_get lv 2 = some (.long xa) → sm_get lv 4 = some (.long xb) → sm_get lv 6 = some (.int (nI ni)) → Bod (d + 8) 399 3 lv [] S (some (.int (Int32.ofInt (-1)))) S := by
    intro q
    induction q with
    | zero =>
      intro ni hni lv q0 q1 q2 q4 q6
      obtain ⟨h1, h2, ⟨N, h3⟩, h4, h5, h6, h7, h8, h9, k1, k2, k3, k4, k5, k6, hn, hm, hr⟩ := h
      exact rFiL_1 (zg := N) q0 q1 q2 q4 q6 (by omega) h2 h3 hz (by omega) (by omega)
    | succ q ih =>
      intro ni hni lv q0 q1 q2 q4 q6
      exact rfind_turn h hz hzm (hk ni (by omega)) (by omega) (hne ni (by omega)) q0 q1 q2 q4 q6 (fun lv1 p0 p1 p2 p4 p6 => ih (ni + 1) (by omega) lv1 p0 p1 p2 p4 p6)
  exact Ans.of (by rw [ml_399]; exact Nat.le_of_ble_eq_true rfl) (Bod.lv (by rfl) (rFi_1 (zg := 0) h.2.1 (fun lv1 p0 p1 p2 p4 p6 => L z 0 (by omega) lv1 p0 p1 p2 p4 p6)))
end
