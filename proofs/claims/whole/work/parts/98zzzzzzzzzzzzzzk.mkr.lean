/-! CALLS OF CLASSES: the reference makes room for the instance, beside the ghost -/
section
variable {P : Nat → Prop} {T : cS} {gT : Nat} {Q : Nat → Prop} {β : Nat → Nat} {F : Nat → Nat → Nat → Prop} {loc par : Nat → Nat → Nat} {ty : Nat → Nat × Nat} {G : Nat → Nat → Nat → Nat × Nat × LL → Prop} {D K : List Nat} {z nn g0 g1 g3 g4 g5 gn k d i gv r0 u tp : Nat} {tq : Nat → Nat × Nat} {C r : List Lv} {x : Lv} {S S' X R W Sc Sr : cS} {v : Option Value} {Sf : cS} {kd : Int32} {xa : Int64}
theorem put_sFr : sFr u W (wI 6151 (nI tp) (wL 92 u xa (wA 91 u kd W))) ∧ sA (wI 6151 (nI tp) (wL 92 u xa (wA 91 u kd W))) 91 u = kd ∧ sL (wI 6151 (nI tp) (wL 92 u xa (wA 91 u kd W))) 92 u = xa ∧ ∀ j, j ≠ u → sA (wI 6151 (nI tp) (wL 92 u xa (wA 91 u kd W))) 91 j = sA W 91 j ∧ sL (wI 6151 (nI tp) (wL 92 u xa (wA 91 u kd W))) 92 j = sL W 92 j ∧ sL (wI 6151 (nI tp) (wL 92 u xa (wA 91 u kd W))) 93 j = sL W 93 j := by
  have e91 : ∀ j, sA (wI 6151 (nI tp) (wL 92 u xa (wA 91 u kd W))) 91 j = if j = u then kd else sA W 91 j := fun j => rfl
  have e92 : ∀ j, sL (wI 6151 (nI tp) (wL 92 u xa (wA 91 u kd W))) 92 j = if j = u then xa else sL W 92 j := fun j => rfl
  have e93 : ∀ j, sL (wI 6151 (nI tp) (wL 92 u xa (wA 91 u kd W))) 93 j = sL W 93 j := fun j => rfl
  refine ⟨⟨rfl, rfl, rfl, rfl, rfl, fun j hj => if_neg hj, fun a h1 _ _ => if_neg h1, fun a h1 _ => if_neg h1, fun j hj => ?_⟩, by rw [e91, if_pos rfl], by rw [e92, if_pos rfl], fun j hj => ?_⟩
  · rw [e91, e92, e93, if_neg (by omega), if_neg (by omega)]
    exact ⟨rfl, rfl, rfl⟩
  · rw [e91, e92, e93, if_neg hj, if_neg hj]
    exact ⟨rfl, rfl, rfl⟩
theorem mkR_0 (hC : CIg 0 (fun q => gC (x :: r) q + dl k q) F loc par ty G tq (x :: r) X) (hX : XR P T gT Q β F D z nn g0 g1 g3 g4 g5 gn tq (x :: r) X R) (hi : vH x = i + 1 + gv) (hk : 1 ≤ k ∧ k ≤ 1500) (hb : β k = r0) (hr : r0 < 1500) (hB : ∀ W, XR P T gT Q β F D z nn g0 g1 g3 g4 g5 gn tq (vAt x (vP x) (vQ x) (vH x + 1, vU x, vL x) :: r) (gst (vB x + i + 1) (topC (x :: r)) k X) (wI 6151 (nI (topC (x :: r) + offC (x :: r) + 1)) (wL 92 (vB x + i + offC (x :: r) + 1) (nI r0).toInt64 (wA 91 (vB x + i + offC (x :: r) + 1) (nI 3) W))) → sI W 6151 = nI (topC (x :: r) + offC (x :: r)) → sL W 92 (vB x + i + offC (x :: r)) = sL R 92 (vB x + i + offC (x :: r)) → ∀ lv1, sm_get lv1 0 = some (.ref 61) → sm_get lv1 1 = some (.int (nI (vB x + i + offC (x :: r)))) → sm_get lv1 2 = some (.int (nI gv)) → sm_get lv1 3 = some (.int (nI r0)) → Bod (d + 9) 397 58 lv1 [] W v Sf) : ∀ lv, sm_get lv 0 = some (.ref 61) → sm_get lv 1 = some (.int (nI (vB x + i + offC (x :: r)))) → sm_get lv 2 = some (.int (nI gv)) → sm_get lv 3 = some (.int (nI r0)) → sm_get lv 4 = some (.int (nI (topC (x :: r) + offC (x :: r)))) → Bod (d + 9) 397 34 lv [] R v Sf := by
  have et : topC (x :: r) = vB x + vH x := rfl
  have hr30 : r.length ≤ 30 := hC.2.2.2.2.2.2.1.2.2.2
  have hcb := cCal_b hC.2.2.2.2.1 hC.2.2.1
  obtain ⟨m1, m2, m3⟩ := hC.2.2.1
  have h600 : vH x ≤ 600 := m2.2.2.2.1
  have hob : ∀ C : List Lv, offC C ≤ C.length := fun C => by
    induction C with
    | nil => exact Nat.le_refl _
    | cons a C ih =>
      have e : offC (a :: C) = mkb a + offC C := rfl
      have hm : mkb a ≤ 1 := by unfold mkb; split <;> omega
      rw [e, List.length_cons]
      omega
  have ho := hob (x :: r)
  rw [List.length_cons] at ho
  have r51 : sI R 6151 = nI (topC (x :: r) + offC (x :: r)) := by
    have e := XR_51 hX
    exact e
  have eu : topC (x :: r) + offC (x :: r) = vB x + i + offC (x :: r) + 1 + gv := by omega
  intro lv q0 q1 q2 q3 q4
  rw [eu] at q4
  refine shift_R (d := d) (u0 := vB x + i + offC (x :: r) + 1) gv (by omega) (fun j j1 j2 => ?_) (fun W w1 w2 w3 w4 lv1 p0 p1 p2 p3 => hB W ?_ (w2.trans r51) (w1.2.2.2.2.2.2.2.2 (vB x + i + offC (x :: r)) (by omega)).2.1 lv1 p0 p1 p2 p3) rfl (by omega) (by omega) lv q0 q1 q2 q3 q4
  · have hv := hX.2.2.2.1.1 (j - offC (x :: r) - vB x) (by omega)
    have h0 := (m1.1 (j - offC (x :: r) - vB x) (by omega)).1
    obtain ⟨e, e1, e2, _⟩ := vr_k hv h0
    rw [show vB x + (j - offC (x :: r) - vB x) + offC (x :: r) = j by omega] at e2
    exact ⟨e, by omega, e2⟩
  · obtain ⟨f1, f2, f3, f4⟩ := put_sFr (u := vB x + i + offC (x :: r) + 1) (W := W) (tp := topC (x :: r) + offC (x :: r) + 1) (xa := (nI r0).toInt64) (kd := nI 3)
    have eb : vB x + i + 1 + offC (x :: r) = vB x + i + offC (x :: r) + 1 := by omega
    refine XR_gst (i := i) (gv := gv) (k := k) hX hC.1 hC.2.2.2.2.1 hi hk (by rw [eb]; exact w1.trans f1) (by rw [rIe]; congr 1; omega) (by rw [eb, f2, f3, hb, nI_ll (by omega)]; exact ⟨rfl, rfl⟩) (fun j j1 j2 => ?_)
    obtain ⟨a1, a2, a3⟩ := f4 j (by omega)
    obtain ⟨b1, b2, b3⟩ := w3 j (by omega) (by omega)
    rw [a1, a2, a3, b1, b2, b3]
    exact ⟨rfl, rfl, rfl⟩
end
