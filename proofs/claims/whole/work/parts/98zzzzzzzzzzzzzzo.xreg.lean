/-! CALLS OF CLASSES: an error beside the ghost is an error -/
section
variable {P : Nat → Prop} {T : cS} {gT : Nat} {Q : Nat → Prop} {β : Nat → Nat} {F : Nat → Nat → Nat → Prop} {D : List Nat} {z nn g0 g1 g3 g4 g5 gn k i s t : Nat} {tq : Nat → Nat × Nat} {C r : List Lv} {x : Lv} {X W : cS} {l' : List (Nat × Nat)}
theorem XRe_gst (h : XR P T gT Q β F D z nn g0 g1 g3 g4 g5 gn tq (vAt x (vP x) (vQ x) (vH x + 1, vU x, vL x) :: r) (gst (vB x + i + 1) t k X) W) (hR : rwL X) (hx : vL x = ((i, 1) :: l', s)) (hH : i + 1 ≤ vH x) (hlo : ∀ y, y ∈ r → vB y + vH y ≤ vB x) : XRe P T gT Q β F D z nn g0 g1 g3 g4 g5 gn tq x r X W := by
  obtain ⟨hF, e47, e48, e46⟩ := gst_f (vB x + i + 1) t k X
  have hXN := XN_gst (XN_of h) hR
  have eA : sA (gst (vB x + i + 1) t k X) = sA X := funext fun a => hF.A (fun c => by cases c)
  have eI : ∀ j, j ≠ 4603 → sI (gst (vB x + i + 1) t k X) j = sI X j := fun j hj => hF.I (fun c => hj (by rw [List.mem_singleton] at c; exact c))
  obtain ⟨a1, a2, a3, ⟨b1, b2, b3⟩, a5, ⟨c1, c2, c3⟩, a7, a8, a9, a10, a11⟩ := h
  have hl : lob (vL x) = i + 1 := by rw [hx]; rfl
  have below : ∀ p, p < vB x + i + 1 → sL X 47 p = sL (gst (vB x + i + 1) t k X) 47 p ∧ sL X 48 p = sL (gst (vB x + i + 1) t k X) 48 p := fun p hp => by
    rw [e47, e48]
    unfold gsF
    rw [if_pos hp, if_pos hp]
    exact ⟨rfl, rfl⟩
  refine ⟨hXN.1, hXN.2.1, a3, ⟨fun j hj => ?_, b2, stkR_E (n := vB x) b3 hlo (fun j hj => below j (by omega)) (fun j _ => ⟨rfl, rfl, rfl⟩)⟩, a5, ⟨c2, c3⟩, a7, ?_, ?_, a10, a11⟩
  · have hj : j < lob (vL x) := hj
    obtain ⟨d1, d2⟩ := below (vB x + j) (by omega)
    show vrel β (sL X 47 (vB x + j)) (sL X 48 (vB x + j)) _ _ _
    rw [d1, d2]
    exact b1 j (by show j < vH x + 1; omega)
  · exact lnC_E (C := x :: r) a8 (by rw [eA]) (eI 5217 (by omega)).symm rfl
  · obtain ⟨⟨d1, d2⟩, ⟨o, o1, o2, o3, o4⟩, u⟩ := a9
    exact ⟨⟨d1.trans (eI 5218 (by omega)), d2.trans (eI 5219 (by omega))⟩, ⟨o, o1, by rw [← eI 4906 (by omega)]; exact o2, o3, fun j hj => by rw [← eA]; exact o4 j hj⟩, u⟩
end
