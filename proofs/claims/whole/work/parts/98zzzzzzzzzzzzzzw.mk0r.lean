/-! CALLS OF CLASSES: no function init, and nothing is given: the instance, on both sides -/
section
variable {P : Nat → Prop} {T : cS} {gT : Nat} {Q : Nat → Prop} {β : Nat → Nat} {F : Nat → Nat → Nat → Prop} {loc par : Nat → Nat → Nat} {ty : Nat → Nat × Nat} {G : Nat → Nat → Nat → Nat × Nat × LL → Prop} {D K : List Nat} {z nn g0 g1 g3 g4 g5 gn k d i s o r0 bo : Nat} {tq : Nat → Nat × Nat} {r : List Lv} {x : Lv} {X S' Sr V1 : cS} {l' : List (Nat × Nat)}
theorem mk0_R (hC : CIg 0 (fun q => gC (x :: r) q + dl k q) F loc par ty G tq (x :: r) X) (hx : vL x = ((i, 1) :: l', s)) (hi : vH x = i + 1 + 0) (hkk : 1 ≤ k ∧ k ≤ 1500) (hX : XR P T gT Q β F D z nn g0 g1 g3 g4 g5 gn tq (vAt x (vP x) (vQ x) (vH x + 1, vU x, vL x) :: r) (gst (vB x + i + 1) (topC (x :: r)) k X) V1) (hR : mkER d (vB x + i + offC (x :: r)) 0 r0 bo (h_kd X o = 3) Sr V1) (hfn : h_kd X o ≠ 3) (kk : KX K X S') (elow : ∀ j, j < vB x + i → sL S' 47 j = sL X 47 j ∧ sL S' 48 j = sL X 48 j) (w1 : sL S' 47 (vB x + i) = 4611686018427387904) (w2 : sL S' 48 (vB x + i) = lN k) (p : Nat) : ∃ W, Ans (d + 14) 397 [.ref 61, .int (nI (vB x + i + offC (x :: r))), .int (nI 0)] Sr (some (.int 1)) W ∧ XR P T gT Q β F (D ++ K.map β) z nn g0 g1 g3 g4 g5 gn tq (vAt x p (vQ x) (i + 1, vU x, (l', s)) :: r) S' W := by
  obtain ⟨hF, e47, e48, e46⟩ := gst_f (vB x + i + 1) (topC (x :: r)) k X
  have hr30 : r.length ≤ 30 := hC.2.2.2.2.2.2.1.2.2.2
  have hcb := cCal_b hC.2.2.2.2.1 hC.2.2.1
  obtain ⟨m1, m2, m3⟩ := hC.2.2.1
  have h600 : vH x ≤ 600 := m2.2.2.2.1
  have hob : ∀ C : List Lv, offC C ≤ C.length := fun C => by
    induction C with
    | nil => exact Nat.le_refl _
    | cons a C ih =>
      have e : offC (a :: C) = mkb a + offC C := rfl
      have hm : mkb a ≤ 1 := by unfold mkb; split <;> omega
      rw [e, List.length_cons]
      omega
  have ho := hob (x :: r)
  rw [List.length_cons] at ho
  have eA : sA (gst (vB x + i + 1) (topC (x :: r)) k X) = sA X := funext fun a => hF.A (fun c => by cases c)
  have eI : ∀ j, j ≠ 4603 → sI (gst (vB x + i + 1) (topC (x :: r)) k X) j = sI X j := fun j hj => hF.I (fun c => hj (by rw [List.mem_singleton] at c; exact c))
  have hXN := XN_gst (XN_of hX) hC.2.1
  -- the instance on the reference's stack
  have hv := hX.2.2.2.1.1 (i + 1) (by show i + 1 < vH x + 1; omega)
  have g47 : sL (gst (vB x + i + 1) (topC (x :: r)) k X) 47 (vB x + (i + 1)) = 4611686018427387904 := by rw [e47]; unfold gsF; rw [if_neg (by omega), if_pos (by omega)]
  have g48 : sL (gst (vB x + i + 1) (topC (x :: r)) k X) 48 (vB x + (i + 1)) = lN k := by rw [e48]; unfold gsF; rw [if_neg (by omega), if_pos (by omega)]
  have hv : vrel β 4611686018427387904 (lN k) (sA V1 91 (vB x + i + offC (x :: r) + 1)) (sL V1 92 (vB x + i + offC (x :: r) + 1)) (sL V1 93 (vB x + i + offC (x :: r) + 1)) := by
    have e := hv
    rw [show vB (vAt x (vP x) (vQ x) (vH x + 1, vU x, vL x)) = vB x from rfl, g47, g48, show vB x + (i + 1) + offC (vAt x (vP x) (vQ x) (vH x + 1, vU x, vL x) :: r) = vB x + i + offC (x :: r) + 1 by show vB x + (i + 1) + offC (x :: r) = _; omega] at e
    exact e
  obtain ⟨ev, v1, v2, _⟩ := vr_k hv (by decide)
  obtain ⟨V2, A, f1, f2, f3, f4, f5, f6⟩ := cpy_T (d := d + 4) (Sr := V1) (k := vB x + i + offC (x :: r) + 1) (to := vB x + i + offC (x :: r)) (by omega) (by omega) v2 (by omega) (by omega)
  have hfr := f1 _ (Nat.le_refl _)
  have hrun := hR.1 hfn rfl V2 A
  obtain ⟨W, hW⟩ : ∃ W, W = wI 6151 (nI (vB x + i + offC (x :: r) + 1)) V2 := ⟨_, rfl⟩
  rw [← hW] at hrun
  have hXC0 := XR_XC hX
  obtain ⟨_, _, c3, ⟨⟨d1, d2⟩, ⟨o', o1, o2, o3, o4⟩, u⟩, c5, c6⟩ := hXC0
  have hXC : XC P T gT Q β F D z nn g0 g1 g3 g4 g5 gn X V1 := ⟨hXN.1, hXN.2.1, c3, ⟨⟨d1.trans (eI 5218 (by omega)), d2.trans (eI 5219 (by omega))⟩, ⟨o', o1, by rw [← eI 4906 (by omega)]; exact o2, o3, fun j hj => by rw [← eA]; exact o4 j hj⟩, u⟩, c5, c6⟩
  have hXCW : XC P T gT Q β F (D ++ K.map β) z nn g0 g1 g3 g4 g5 gn S' W := by
    refine XC_K ?_ (mHS_cl hC.1) (mHS_ok hC.1) (KXr_of kk)
    rw [hW]
    exact XC_I (XC_s hXC hfr) (by decide)
  have wA' : ∀ a, a ≠ 91 → a ≠ 104 → sA W a = sA V1 a := fun a a1 a2 => by
    rw [hW]
    exact hfr.2.2.2.2.2.2.1 a a1 a2 a2
  have wI' : ∀ j, j ≠ 6151 → sI W j = sI V1 j := fun j hj => by
    rw [hW, rI, if_neg hj]
    exact hfr.2.2.2.2.2.1 j hj
  have w91 : sA W 91 = sA V2 91 ∧ sL W 92 = sL V2 92 ∧ sL W 93 = sL V2 93 := by rw [hW]; exact ⟨rfl, rfl, rfl⟩
  have hns : ∀ j, j ≠ vB x + i + offC (x :: r) → sA W 91 j = sA V1 91 j ∧ sL W 92 j = sL V1 92 j ∧ sL W 93 j = sL V1 93 j := fun j hj => by
    rw [w91.1, w91.2.1, w91.2.2]
    exact f3 j hj
  have low : ∀ j, j < vB x + i → sL S' 47 j = sL (gst (vB x + i + 1) (topC (x :: r)) k X) 47 j ∧ sL S' 48 j = sL (gst (vB x + i + 1) (topC (x :: r)) k X) 48 j := fun j hj => by
    obtain ⟨a1, a2⟩ := elow j hj
    rw [a1, a2, e47, e48]
    unfold gsF
    rw [if_pos (by omega), if_pos (by omega)]
    exact ⟨rfl, rfl⟩
  obtain ⟨b8, e, b81, b82, b83⟩ := hX.2.2.2.2.2.2.2.1
  have hrc := hX.2.2.2.2.1
  have hcal : cCal (gst (vB x + i + 1) (topC (x :: r)) k X) (vAt x (vP x) (vQ x) (vH x + 1, vU x, vL x) :: r) := by
    have h1 := cCal_E (S' := gst (vB x + i + 1) (topC (x :: r)) k X) hC.2.2.2.2.1 (fun a _ => by rw [eA])
    cases r with
    | nil => exact h1
    | cons y r => exact h1
  refine ⟨W, hrun, XR_lv (x := vAt x (vP x) (vQ x) (vH x + 1, vU x, vL x)) (q := vQ x) (h' := i + 1) (u' := vU x) (l2 := (l', s)) hXCW hX.2.2.2.1 hrc hX.2.2.2.2.2.2.1 hcal (fun j hj => ?_) ⟨e, b81, ?_, ?_⟩ (fun j hj => low j (by have hj : j < vB x := hj; omega)) (fun j hj => hns j (by have hj : j < vB x + offC (x :: r) := hj; omega)) (by rw [hW]; exact congrFun hfr.2.1 94) (fun a ha => wA' a ?_ ?_) ⟨fun j _ => by rw [wA' 95 (by decide) (by decide)], by rw [wA' 95 (by decide) (by decide)]; exact hrc.1.2.1⟩ hrc.1.2.2.2.2.2.2 (fun j hj => ?_) ⟨?_, ?_, ?_⟩ (fun e y l'' hz => ⟨(i, 1) :: e, by show (vL x).1 = _; rw [hx]; have hz : l' = e ++ (y, 0) :: l'' := hz; rw [hz]; rfl⟩) p⟩
  · obtain ⟨e, a1, a2, a3⟩ := b8 j hj
    rw [eA] at a2
    exact ⟨e, a1, by rw [kk.1.A (by decide)]; exact a2, by rw [wA' 98 (by decide) (by decide)]; exact a3⟩
  · rw [kk.1.I (by decide), ← eI 5217 (by omega)]
    exact b82
  · rw [wA' 98 (by decide) (by decide)]
    exact b83
  · simp only [List.mem_cons, List.not_mem_nil, or_false] at ha; omega
  · simp only [List.mem_cons, List.not_mem_nil, or_false] at ha; omega
  · show vrel β (sL S' 47 (vB x + j)) (sL S' 48 (vB x + j)) (sA W 91 (vB x + j + offC (x :: r))) (sL W 92 (vB x + j + offC (x :: r))) (sL W 93 (vB x + j + offC (x :: r)))
    by_cases c : j = i
    · subst c
      rw [w1, w2, w91.1, w91.2.1, w91.2.2, f4, f5, f6]
      exact hv
    · obtain ⟨a1, a2⟩ := low (vB x + j) (by omega)
      obtain ⟨a3, a4, a5⟩ := hns (vB x + j + offC (x :: r)) (by omega)
      rw [a1, a2, a3, a4, a5]
      exact hX.2.2.2.1.1 j (by show j < vH x + 1; omega)
  · rw [hW, rIe]
    show nI _ = nI (vB x + (i + 1) + offC (x :: r))
    congr 1
    omega
  · rw [wI' _ (by decide)]
    exact hX.2.2.2.2.2.1.2.1
  · rw [wI' _ (by decide)]
    exact hX.2.2.2.2.2.1.2.2
end
