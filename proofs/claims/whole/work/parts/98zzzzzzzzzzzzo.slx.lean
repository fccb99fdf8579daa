/-! FLOW ON BOTH SIDES: the int of a loop counts on: both stacks -/
section
variable {P : Nat → Prop} {T : cS} {gT : Nat} {Q : Nat → Prop} {β : Nat → Nat} {F : Nat → Nat → Nat → Prop} {loc par : Nat → Nat → Nat} {ty : Nat → Nat × Nat} {G : Nat → Nat → Nat → Nat × Nat × LL → Prop} {D : List Nat} {z nn g0 g1 g3 g4 g5 gn p j : Nat} {tq : Nat → Nat × Nat} {r : List Lv} {x : Lv} {S Sr : cS} {u : Int64}
theorem XR_lo (h : CI F loc par ty G tq (x :: r) S) (hX : XR P T gT Q β F D z nn g0 g1 g3 g4 g5 gn tq (x :: r) S Sr) (hj : j < vH x) (hp : p = vB x + j) (h47 : sL S 47 p = 2305843009213693952) : XR P T gT Q β F D z nn g0 g1 g3 g4 g5 gn tq (x :: r) (wL 48 p u S) (wL 92 (p + offC (x :: r)) u Sr) := by
  have hF : FrL [] [] [48] S (wL 48 p u S) := ⟨rfl, fun a ha => if_neg (fun c => ha (List.mem_singleton.mpr c)), rfl, rfl, rfl, rfl, fun _ _ => rfl, fun _ _ => rfl⟩
  have hE : ∀ k, lv S k → obE S (wL 48 p u S) k := fun k hk => by
    obtain ⟨r1, r2⟩ := FrL_row hF (fun a ha => by rw [List.mem_singleton] at ha; omega) (mHS_ok h.1 k hk.1 hk.2.1)
    exact obE_of rfl rfl rfl rfl rfl r1 r2
  have hcal : cCal S (x :: r) := h.2.2.2.2.1
  have eL : ∀ a, a ≠ 48 → sL (wL 48 p u S) a = sL S a := fun a ha => if_neg ha
  have e8 : ∀ j, sL (wL 48 p u S) 48 j = if j = p then u else sL S 48 j := fun j => by
    show (if (48 : Nat) = 48 then va_up (sL S 48) p u else sL S 48) j = _
    rw [if_pos rfl]
    rfl
  have eWL : ∀ a, a ≠ 92 → sL (wL 92 (p + offC (x :: r)) u Sr) a = sL Sr a := fun a ha => if_neg ha
  have e92 : ∀ j, sL (wL 92 (p + offC (x :: r)) u Sr) 92 j = if j = p + offC (x :: r) then u else sL Sr 92 j := fun j => by
    show (if (92 : Nat) = 92 then va_up (sL Sr 92) (p + offC (x :: r)) u else sL Sr 92) j = _
    rw [if_pos rfl]
    rfl
  obtain ⟨a1, a2, a3, a4, a5, a6, a7, a8, a9, a10, a11⟩ := hX
  have hgs := a3.2.2.2.2.2.2.2.1
  have hW : sFr 0 Sr (wL 92 (p + offC (x :: r)) u Sr) := ⟨rfl, rfl, rfl, rfl, rfl, fun _ _ => rfl, fun _ _ _ _ => rfl, fun a h1 _ => eWL a h1, fun i hi => absurd hi (Nat.not_lt_zero i)⟩
  have hN := sFr_N hW ⟨hgs.1, hgs.2.1⟩
  have eo : offC (x :: r) = mkb x + offC r := rfl
  refine ⟨HR_c (HR_M (sFr_M hW) hN a1) (fun q => Iff.rfl) hE, NMw_E a2 (eL 21 (by decide)) (eL 22 (by decide)) (eL 17 (by decide)) (eL 18 (by decide)) hN rfl (eWL g4 (nG_ne hgs.2.2.2.1 (by omega))) (eWL g5 (nG_ne hgs.2.2.2.2 (by omega))), rTb_E a3 rfl (fun _ _ _ => rfl) rfl, ?_, rCal_E (C := x :: r) a5 rfl (fun _ _ => rfl), a6, triX_E (C := x :: r) a7 (fun _ _ => rfl), lnC_E (C := x :: r) a8 rfl rfl rfl, a9, rKp_s a10 a11 hW, a11⟩
  obtain ⟨b1, b2, b3⟩ := a4
  refine ⟨fun i hi => ?_, fun hd => ?_, stkR_E (n := vB x) b3 (fun y hy => by have := cCal_lo hcal y hy; omega) (fun i hi => by rw [eL 47 (by decide), e8, if_neg (by omega)]; exact ⟨rfl, rfl⟩) (fun i hi => by rw [eWL 93 (by decide), e92, if_neg (by omega)]; exact ⟨rfl, rfl, rfl⟩)⟩
  · have hv := b1 i hi
    rw [eL 47 (by decide), eWL 93 (by decide), e8, e92]
    by_cases c : vB x + i = p
    · rw [c] at hv ⊢
      rw [if_pos rfl, if_pos rfl]
      have k2 : c_kind (sL S 47 p) = nI 2 := by rw [h47]; decide
      exact Or.inr (Or.inr (Or.inl ⟨h47, (vr_int hv).1.mp k2, rfl⟩))
    · rw [if_neg c, if_neg (fun c' => c (by omega))]
      exact hv
  · have hm : mkb x = 1 := if_neg hd
    rw [e92, if_neg (by omega)]
    exact b2 hd
end
