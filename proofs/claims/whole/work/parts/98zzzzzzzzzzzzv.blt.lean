/-! NAMES ON BOTH SIDES: built-in names -/
def iniB (i : Nat) : Nat := [105, 110, 105, 116].getD i 0
/-- the class's numbers of the built-in names, of init -/
def Wb (S : cS) : Prop := (∀ i, i < 10 → c_is S (e_H (tx_c (35 + i)) (tx_n (35 + i))) (e_L (tx_c (35 + i)) (tx_n (35 + i))) (24 + i)) ∧ c_is S (e_H iniB 4) (e_L iniB 4) 34
/-- the class's operand of a name that is called -/
def btO (q : Nat) : Nat := if 24 ≤ q ∧ q < 34 then q - 24 + 1 else 0
theorem tx_bt : ∀ i, i < 10 → tx_n (35 + i) ≤ 12 := by decide +kernel
section
variable {P : Nat → Prop} {T : cS} {gT : Nat} {Q : Nat → Prop} {β β' : Nat → Nat} {F : Nat → Nat → Nat → Prop} {loc par : Nat → Nat → Nat} {D D' K : List Nat} {z nn g0 g1 g3 g4 g5 gn d n m p q t nm rn N0 N1 : Nat} {tq : Nat → Nat × Nat} {C r : List Lv} {x : Lv} {S S' Sf S0 S1 X W Sc Sr : cS} {v : Option Value}
/-- a name of the reference is this text -/
def rNmT (S : cS) (g0 g1 nm t : Nat) : Prop := sA S g1 nm = nI (tx_n t) ∧ ∀ k, k < tx_n t → sA S g0 (12 * nm + k) = nI (tx_c t k)
theorem isNameL (v0 : sV S 6100 = .ref g0) (k0 : isK S g0 2 N0) (hN0 : N0 < 2 ^ 20) (ht : t < 51) (hnm : nm < 2 ^ 16) (hN : 12 * nm + tx_n t ≤ N0) : ∀ {r k : Nat} {lv1 : sm_L}, k + r = tx_n t → sm_get lv1 0 = some (.ref 61) → sm_get lv1 1 = some (.int (nI nm)) → sm_get lv1 2 = some (.retAddr (2 * t)) → sm_get lv1 3 = some (.int (nI k)) → ((∀ i, k ≤ i → i < tx_n t → sA S g0 (12 * nm + i) = nI (tx_c t i)) → Bod (d + 8) 357 17 lv1 [] S (some (.int 1)) S) ∧ (¬ (∀ i, k ≤ i → i < tx_n t → sA S g0 (12 * nm + i) = nI (tx_c t i)) → Bod (d + 8) 357 17 lv1 [] S (some (.int 0)) S) := by
  have hn := tx_n_le t ht
  have c1 := tx_len (d := d + 6) (S := S) ht
  intro r
  induction r with
  | zero =>
    intro k lv1 hk q0 q1 q2 q3
    exact ⟨fun _ => rIsL_1 ht q0 q1 q2 q3 (by omega) (by omega) (by omega) c1 (by omega), fun h => absurd (fun i h1 h2 => by omega) h⟩
  | succ r ih =>
    intro k lv1 hk q0 q1 q2 q3
    have c2 := tx_at (d := d + 4) (S := S) (i := k) ht (by omega)
    have hck := (tx_ok t ht k (by omega)).2
    by_cases e : sA S g0 (12 * nm + k) = nI (tx_c t k)
    · refine ⟨fun h => ?_, fun h => ?_⟩
      · exact rIsL_2 ht q0 q1 q2 q3 (by omega) (by omega) (by omega) c1 (by omega) v0 k0 hN0 (by omega) (by omega) c2 e (fun lv2 p0 p1 p2 p3 => (ih (by omega) p0 p1 p2 p3).1 (fun i h1 h2 => h i (by omega) h2))
      · exact rIsL_2 ht q0 q1 q2 q3 (by omega) (by omega) (by omega) c1 (by omega) v0 k0 hN0 (by omega) (by omega) c2 e (fun lv2 p0 p1 p2 p3 => (ih (by omega) p0 p1 p2 p3).2 (fun h3 => h (fun i h1 h2 => by
          by_cases e2 : i = k
          · rw [e2]; exact e
          · exact h3 i (by omega) h2)))
    · refine ⟨fun h => absurd (h k (Nat.le_refl _) (by omega)) e, fun _ => ?_⟩
      exact rIsL_3 ht q0 q1 q2 q3 (by omega) (by omega) (by omega) c1 (by omega) v0 k0 hN0 (by omega) (by omega) c2 e
theorem isName_T (v0 : sV S 6100 = .ref g0) (k0 : isK S g0 2 N0) (hN0 : N0 < 2 ^ 20) (v1 : sV S 6101 = .ref g1) (k1 : isK S g1 0 N1) (hN1 : N1 < 2 ^ 20) (ht : t < 51) (hnm : nm < 2 ^ 16) (hnm1 : nm < N1) (hl : ∃ m, m ≤ 12 ∧ sA S g1 nm = nI m) (hN : 12 * nm + 12 ≤ N0) : (rNmT S g0 g1 nm t → Ans (d + 9) 357 [.ref 61, .int (nI nm), .retAddr (2 * t)] S (some (.int 1)) S) ∧ (¬ rNmT S g0 g1 nm t → Ans (d + 9) 357 [.ref 61, .int (nI nm), .retAddr (2 * t)] S (some (.int 0)) S) := by
  have hn := tx_n_le t ht
  obtain ⟨m, m1, m2⟩ := hl
  have m357 := ml_357
  have c1 := tx_len (d := d + 6) (S := S) ht
  have go : ∀ {v}, Bod (d + 8) 357 0 [(0, .ref 61), (1, .int (nI nm)), (2, .retAddr (2 * t))] [] S v S → Ans (d + 9) 357 [.ref 61, .int (nI nm), .retAddr (2 * t)] S v S := fun hb => Ans.of (by rw [m357]; exact Nat.le_of_ble_eq_true rfl) (Bod.lv (by rfl) hb)
  by_cases e : m = tx_n t
  · have hN' : 12 * nm + tx_n t ≤ N0 := by omega
    refine ⟨fun h => go (rIs_1 ht (by omega) v1 k1 hN1 hnm1 m2 (by omega) (by omega) c1 e (fun lv1 p0 p1 p2 p3 => (isNameL v0 k0 hN0 ht hnm hN' (r := tx_n t) (by omega) p0 p1 p2 p3).1 (fun i _ h2 => h.2 i h2))), fun h => go (rIs_1 ht (by omega) v1 k1 hN1 hnm1 m2 (by omega) (by omega) c1 e (fun lv1 p0 p1 p2 p3 => (isNameL v0 k0 hN0 ht hnm hN' (r := tx_n t) (by omega) p0 p1 p2 p3).2 (fun h3 => h ⟨by rw [m2, e], fun k hk => h3 k (Nat.zero_le _) hk⟩)))⟩
  · refine ⟨fun h => ?_, fun _ => go (rIs_2 ht (by omega) v1 k1 hN1 hnm1 m2 (by omega) (by omega) c1 e)⟩
    exact absurd (nI_j (by omega) (by omega) (m2.symm.trans h.1)) e
/-- the reference's names against the class's -/
theorem rNmT_q (hok : rnOk S g0 g1 rn) (hrel : nrel S g0 g1 q rn) (hz : ∀ i k, i < z → k < z → sL S 17 i = sL S 17 k → sL S 18 i = sL S 18 k → i = k) (hq : q < z) (h35 : 35 ≤ z) (hW : Wb S) {i : Nat} (hi : i < 10) : rNmT S g0 g1 rn (35 + i) ↔ q = 24 + i := by
  obtain ⟨m, m1, m2, m3, m4⟩ := hok
  have t1 := tx_bt i hi
  have t2 : ∀ k, k < tx_n (35 + i) → tx_c (35 + i) k < 128 := fun k hk => (tx_ok (35 + i) (by omega) k hk).2
  obtain ⟨a1, a2⟩ := hrel
  have eg : gN (sA S g1 rn) = m := by rw [m3, gN_nI (by omega)]
  have hb : ∀ k, k < m → rnm S g0 rn k < 128 ∧ sA S g0 (12 * rn + k) = nI (rnm S g0 rn k) := fun k hk => by
    obtain ⟨b, b1, b2⟩ := m4 k hk
    have : rnm S g0 rn k = b := by unfold rnm; rw [b2, gN_nI (by omega)]
    rw [this]
    exact ⟨b1, b2⟩
  obtain ⟨w1, w2⟩ := hW.1 i hi
  constructor
  · rintro ⟨h1, h2⟩
    have em : m = tx_n (35 + i) := nI_j (by omega) (by omega) (m3.symm.trans h1)
    have ef : ∀ k, k < m → rnm S g0 rn k = tx_c (35 + i) k := fun k hk => by
      have := h2 k (by omega)
      obtain ⟨b1, b2⟩ := hb k hk
      have b3 := t2 k (by omega)
      exact nI_j (by omega) (by omega) (b2.symm.trans this)
    refine hz q (24 + i) hq (by omega) ?_ ?_
    · rw [a1, w1]
      unfold rnH
      rw [eg, ← em]
      exact e_H_congr (fun k hk => ef k hk)
    · rw [a2, w2]
      unfold rnL
      rw [eg, ← em]
      exact e_L_congr (fun k hk => ef k hk)
  · intro h
    subst h
    have e1 := a1.symm.trans w1
    have e2 := a2.symm.trans w2
    unfold rnH at e1
    unfold rnL at e2
    rw [eg] at e1 e2
    obtain ⟨c1, c2⟩ := e_inj (by omega) (by omega) (fun k hk => by have := (hb k hk).1; omega) (fun k hk => by have := t2 k (by omega); omega) e1 e2
    refine ⟨by rw [m3, c1], fun k hk => ?_⟩
    rw [(hb k (by omega)).2, c2 k (by omega)]
/-- the built-in name that a name is -/
theorem builtOf_T (v0 : sV S 6100 = .ref g0) (k0 : isK S g0 2 N0) (hN0 : N0 < 2 ^ 20) (v1 : sV S 6101 = .ref g1) (k1 : isK S g1 0 N1) (hN1 : N1 < 2 ^ 20) (hnm : rn < 2 ^ 16) (hnm1 : rn < N1) (hN : 12 * rn + 12 ≤ N0) (hok : rnOk S g0 g1 rn) (hi : ∀ i, i < 10 → (rNmT S g0 g1 rn (35 + i) ↔ q = 24 + i)) : Ans (d + 10) 356 [.ref 61, .int (nI rn)] S (some (.int (if btO q = 0 then Int32.ofInt (-1) else nI (btO q - 1)))) S := by
  have m356 := ml_356
  have hl : ∃ m, m ≤ 12 ∧ sA S g1 rn = nI m := by
    obtain ⟨m, m1, m2, m3, _⟩ := hok
    exact ⟨m, m2, m3⟩
  have go : ∀ {v}, Bod (d + 9) 356 0 [(0, .ref 61), (1, .int (nI rn))] [] S v S → Ans (d + 10) 356 [.ref 61, .int (nI rn)] S v S := fun hb => Ans.of (by rw [m356]; exact Nat.le_of_ble_eq_true rfl) (Bod.lv (by rfl) hb)
  have yes : ∀ t i, t = 35 + i → i < 10 → q = 24 + i → Ans (d + 9) 357 [.ref 61, .int (nI rn), .retAddr (2 * t)] S (some (.int (nI 1))) S := fun t i ht h10 hq => by
    subst ht
    exact (isName_T v0 k0 hN0 v1 k1 hN1 (by omega) hnm hnm1 hl hN).1 ((hi i h10).mpr hq)
  have no : ∀ t i, t = 35 + i → i < 10 → q ≠ 24 + i → Ans (d + 9) 357 [.ref 61, .int (nI rn), .retAddr (2 * t)] S (some (.int (nI 0))) S := fun t i ht h10 hq => by
    subst ht
    exact (isName_T v0 k0 hN0 v1 k1 hN1 (by omega) hnm hnm1 hl hN).2 (fun c => hq ((hi i h10).mp c))
  by_cases c : 24 ≤ q ∧ q < 34
  · have eb : btO q = q - 24 + 1 := if_pos c
    rw [eb, if_neg (by omega), show q - 24 + 1 - 1 = q - 24 by omega]
    obtain ⟨i, i10, iq⟩ : ∃ i, i < 10 ∧ q = 24 + i := ⟨q - 24, by omega, by omega⟩
    subst iq
    rw [show 24 + i - 24 = i by omega]
    have hc : i = 0 ∨ i = 1 ∨ i = 2 ∨ i = 3 ∨ i = 4 ∨ i = 5 ∨ i = 6 ∨ i = 7 ∨ i = 8 ∨ i = 9 := by omega
    rcases hc with c | c | c | c | c | c | c | c | c | c <;> subst c
    · exact go (rBo_1 (d := d + 1) (by omega)  (yes 35 0 rfl (by omega) rfl))
    · exact go (rBo_2 (d := d + 1) (by omega) (no 35 0 rfl (by omega) (by omega)) (yes 36 1 rfl (by omega) rfl))
    · exact go (rBo_3 (d := d + 1) (by omega) (no 35 0 rfl (by omega) (by omega)) (no 36 1 rfl (by omega) (by omega)) (yes 37 2 rfl (by omega) rfl))
    · exact go (rBo_4 (d := d + 1) (by omega) (no 35 0 rfl (by omega) (by omega)) (no 36 1 rfl (by omega) (by omega)) (no 37 2 rfl (by omega) (by omega)) (yes 38 3 rfl (by omega) rfl))
    · exact go (rBo_5 (d := d + 1) (by omega) (no 35 0 rfl (by omega) (by omega)) (no 36 1 rfl (by omega) (by omega)) (no 37 2 rfl (by omega) (by omega)) (no 38 3 rfl (by omega) (by omega)) (yes 39 4 rfl (by omega) rfl))
    · exact go (rBo_6 (d := d + 1) (by omega) (no 35 0 rfl (by omega) (by omega)) (no 36 1 rfl (by omega) (by omega)) (no 37 2 rfl (by omega) (by omega)) (no 38 3 rfl (by omega) (by omega)) (no 39 4 rfl (by omega) (by omega)) (yes 40 5 rfl (by omega) rfl))
    · exact go (rBo_7 (d := d + 1) (by omega) (no 35 0 rfl (by omega) (by omega)) (no 36 1 rfl (by omega) (by omega)) (no 37 2 rfl (by omega) (by omega)) (no 38 3 rfl (by omega) (by omega)) (no 39 4 rfl (by omega) (by omega)) (no 40 5 rfl (by omega) (by omega)) (yes 41 6 rfl (by omega) rfl))
    · exact go (rBo_8 (d := d + 1) (by omega) (no 35 0 rfl (by omega) (by omega)) (no 36 1 rfl (by omega) (by omega)) (no 37 2 rfl (by omega) (by omega)) (no 38 3 rfl (by omega) (by omega)) (no 39 4 rfl (by omega) (by omega)) (no 40 5 rfl (by omega) (by omega)) (no 41 6 rfl (by omega) (by omega)) (yes 42 7 rfl (by omega) rfl))
    · exact go (rBo_9 (d := d + 1) (by omega) (no 35 0 rfl (by omega) (by omega)) (no 36 1 rfl (by omega) (by omega)) (no 37 2 rfl (by omega) (by omega)) (no 38 3 rfl (by omega) (by omega)) (no 39 4 rfl (by omega) (by omega)) (no 40 5 rfl (by omega) (by omega)) (no 41 6 rfl (by omega) (by omega)) (no 42 7 rfl (by omega) (by omega)) (yes 43 8 rfl (by omega) rfl))
    · exact go (rBo_10 (d := d + 1) (by omega) (no 35 0 rfl (by omega) (by omega)) (no 36 1 rfl (by omega) (by omega)) (no 37 2 rfl (by omega) (by omega)) (no 38 3 rfl (by omega) (by omega)) (no 39 4 rfl (by omega) (by omega)) (no 40 5 rfl (by omega) (by omega)) (no 41 6 rfl (by omega) (by omega)) (no 42 7 rfl (by omega) (by omega)) (no 43 8 rfl (by omega) (by omega)) (yes 44 9 rfl (by omega) rfl))
  · have eb : btO q = 0 := if_neg c
    rw [eb, if_pos rfl]
    exact go (rBo_11 (d := d + 1) (by omega) (no 35 0 rfl (by omega) (by omega)) (no 36 1 rfl (by omega) (by omega)) (no 37 2 rfl (by omega) (by omega)) (no 38 3 rfl (by omega) (by omega)) (no 39 4 rfl (by omega) (by omega)) (no 40 5 rfl (by omega) (by omega)) (no 41 6 rfl (by omega) (by omega)) (no 42 7 rfl (by omega) (by omega)) (no 43 8 rfl (by omega) (by omega)) (no 44 9 rfl (by omega) (by omega)))
end
