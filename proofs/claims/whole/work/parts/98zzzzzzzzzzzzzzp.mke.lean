/-! CALLS OF CLASSES: the reference makes room, told without a continuation -/
section
variable {P : Nat → Prop} {T : cS} {gT : Nat} {Q : Nat → Prop} {β : Nat → Nat} {F : Nat → Nat → Nat → Prop} {loc par : Nat → Nat → Nat} {ty : Nat → Nat × Nat} {G : Nat → Nat → Nat → Nat × Nat × LL → Prop} {D K : List Nat} {z nn g0 g1 g3 g4 g5 gn k d i gv r0 u0 ba : Nat} {tq : Nat → Nat × Nat} {C r : List Lv} {x : Lv} {S S' X R W Sc Sr : cS}
/-- from 34 to 58 of 397 -/
def mkGo (d ba nn io t : Nat) (X W : cS) : Prop := ∀ (v : Option Value) (Sf : cS), (∀ lv1, sm_get lv1 0 = some (.ref 61) → sm_get lv1 1 = some (.int (nI ba)) → sm_get lv1 2 = some (.int (nI nn)) → sm_get lv1 3 = some (.int (nI io)) → Bod d 397 58 lv1 [] W v Sf) → ∀ lv, sm_get lv 0 = some (.ref 61) → sm_get lv 1 = some (.int (nI ba)) → sm_get lv 2 = some (.int (nI nn)) → sm_get lv 3 = some (.int (nI io)) → sm_get lv 4 = some (.int (nI t)) → Bod d 397 34 lv [] X v Sf
theorem shift_E {nn io : Nat} : ∀ (k : Nat) {X : cS}, u0 + k ≤ 20479 → (∀ j, u0 ≤ j → j < u0 + k → ∃ e, e < 2 ^ 20 ∧ sA X 91 j = nI e) → ba + 1 = u0 → nn < 2 ^ 20 → io < 2 ^ 20 → ∃ W, sFr u0 X W ∧ sI W 6151 = sI X 6151 ∧ (∀ j, u0 < j → j ≤ u0 + k → sA W 91 j = sA X 91 (j - 1) ∧ sL W 92 j = sL X 92 (j - 1) ∧ sL W 93 j = sL X 93 (j - 1)) ∧ (∀ j, u0 + k < j → sA W 91 j = sA X 91 j ∧ sL W 92 j = sL X 92 j ∧ sL W 93 j = sL X 93 j) ∧ mkGo (d + 9) ba nn io (u0 + k) X W := by
  intro k
  induction k with
  | zero =>
    intro X h0 he hb hn hi
    subst hb
    exact ⟨X, sFr.refl _ _, rfl, fun j h1 h2 => by omega, fun j hj => ⟨rfl, rfl, rfl⟩, fun v Sf hB lv q0 q1 q2 q3 q4 => rMkA_1 (d := d + 1) q0 q1 q2 q3 q4 (by omega) (by omega) (by omega) (by omega) (by omega) (fun lv1 p0 p1 p2 p3 => hB lv1 p0 p1 p2 p3)⟩
  | succ k ih =>
    intro X h0 he hb hn hi
    obtain ⟨e, e1, e2⟩ := he (u0 + k) (by omega) (by omega)
    obtain ⟨W1, A1, w1, w2, w3, w4, w5, w6⟩ := cpy_T (d := d) (Sr := X) (k := u0 + k) (to := u0 + k + 1) (by omega) (by omega) e2 e1 (by omega)
    have hf1 := w1 u0 (by omega)
    obtain ⟨W, hw, hw51, hs1, hs2, hgo⟩ := ih (X := W1) (by omega) (fun j j1 j2 => by
      rw [(w3 j (by omega)).1]
      exact he j j1 (by omega)) hb hn hi
    refine ⟨W, hf1.trans hw, hw51.trans w2, fun j j1 j2 => ?_, fun j hj => ?_, fun v Sf hB lv q0 q1 q2 q3 q4 => rMkA_2 (d := d + 1) (ni := u0 + k) q0 q1 q2 q3 q4 (by omega) (by omega) (by omega) (by omega) (by omega) (by omega) A1 (fun lv1 p0 p1 p2 p3 p4 => hgo v Sf hB lv1 p0 p1 p2 p3 p4)⟩
    · by_cases c : j = u0 + k + 1
      · obtain ⟨d1, d2, d3⟩ := hs2 j (by omega)
        rw [d1, d2, d3, c, w4, w5, w6]
        exact ⟨rfl, rfl, rfl⟩
      · obtain ⟨d1, d2, d3⟩ := hs1 j j1 (by omega)
        obtain ⟨f1, f2, f3⟩ := w3 (j - 1) (by omega)
        rw [d1, d2, d3, f1, f2, f3]
        exact ⟨rfl, rfl, rfl⟩
    · obtain ⟨d1, d2, d3⟩ := hs2 j (by omega)
      obtain ⟨f1, f2, f3⟩ := w3 j (by omega)
      rw [d1, d2, d3, f1, f2, f3]
      exact ⟨rfl, rfl, rfl⟩
theorem mkR_E (hC : CIg 0 (fun q => gC (x :: r) q + dl k q) F loc par ty G tq (x :: r) X) (hX : XR P T gT Q β F D z nn g0 g1 g3 g4 g5 gn tq (x :: r) X R) (hi : vH x = i + 1 + gv) (hk : 1 ≤ k ∧ k ≤ 1500) (hb : β k = r0) (hr : r0 < 1500) : ∃ W, XR P T gT Q β F D z nn g0 g1 g3 g4 g5 gn tq (vAt x (vP x) (vQ x) (vH x + 1, vU x, vL x) :: r) (gst (vB x + i + 1) (topC (x :: r)) k X) (wI 6151 (nI (topC (x :: r) + offC (x :: r) + 1)) (wL 92 (vB x + i + offC (x :: r) + 1) (nI r0).toInt64 (wA 91 (vB x + i + offC (x :: r) + 1) (nI 3) W))) ∧ sI W 6151 = nI (topC (x :: r) + offC (x :: r)) ∧ sL W 92 (vB x + i + offC (x :: r)) = sL R 92 (vB x + i + offC (x :: r)) ∧ sFr (vB x + i + offC (x :: r) + 1) R W ∧ mkGo (d + 9) (vB x + i + offC (x :: r)) gv r0 (topC (x :: r) + offC (x :: r)) R W := by
  have et : topC (x :: r) = vB x + vH x := rfl
  have hr30 : r.length ≤ 30 := hC.2.2.2.2.2.2.1.2.2.2
  have hcb := cCal_b hC.2.2.2.2.1 hC.2.2.1
  obtain ⟨m1, m2, m3⟩ := hC.2.2.1
  have h600 : vH x ≤ 600 := m2.2.2.2.1
  have hob : ∀ C : List Lv, offC C ≤ C.length := fun C => by
    induction C with
    | nil => exact Nat.le_refl _
    | cons a C ih =>
      have e : offC (a :: C) = mkb a + offC C := rfl
      have hm : mkb a ≤ 1 := by unfold mkb; split <;> omega
      rw [e, List.length_cons]
      omega
  have ho := hob (x :: r)
  rw [List.length_cons] at ho
  have r51 : sI R 6151 = nI (topC (x :: r) + offC (x :: r)) := by
    have e := XR_51 hX
    exact e
  have eu : topC (x :: r) + offC (x :: r) = vB x + i + offC (x :: r) + 1 + gv := by omega
  obtain ⟨W, w1, w2, w3, w4, hgo⟩ := shift_E (d := d) (nn := gv) (io := r0) (u0 := vB x + i + offC (x :: r) + 1) (ba := vB x + i + offC (x :: r)) gv (X := R) (by omega) (fun j j1 j2 => by
    have hv := hX.2.2.2.1.1 (j - offC (x :: r) - vB x) (by omega)
    have h0 := (m1.1 (j - offC (x :: r) - vB x) (by omega)).1
    obtain ⟨e, e1, e2, _⟩ := vr_k hv h0
    rw [show vB x + (j - offC (x :: r) - vB x) + offC (x :: r) = j by omega] at e2
    exact ⟨e, by omega, e2⟩) rfl (by omega) (by omega)
  rw [← eu] at hgo
  refine ⟨W, ?_, w2.trans r51, (w1.2.2.2.2.2.2.2.2 (vB x + i + offC (x :: r)) (by omega)).2.1, w1, hgo⟩
  obtain ⟨f1, f2, f3, f4⟩ := put_sFr (u := vB x + i + offC (x :: r) + 1) (W := W) (tp := topC (x :: r) + offC (x :: r) + 1) (xa := (nI r0).toInt64) (kd := nI 3)
  have eb : vB x + i + 1 + offC (x :: r) = vB x + i + offC (x :: r) + 1 := by omega
  refine XR_gst (i := i) (gv := gv) (k := k) hX hC.1 hC.2.2.2.2.1 hi hk (by rw [eb]; exact w1.trans f1) (by rw [rIe]; congr 1; omega) (by rw [eb, f2, f3, hb, nI_ll (by omega)]; exact ⟨rfl, rfl⟩) (fun j j1 j2 => ?_)
  obtain ⟨a1, a2, a3⟩ := f4 j (by omega)
  obtain ⟨b1, b2, b3⟩ := w3 j (by omega) (by omega)
  rw [a1, a2, a3, b1, b2, b3]
  exact ⟨rfl, rfl, rfl⟩
end
