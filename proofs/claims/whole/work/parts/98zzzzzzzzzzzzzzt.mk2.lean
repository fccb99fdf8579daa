/-! CALLS OF CLASSES: no function init, and values are given: error 2 on both sides -/
section
variable {P : Nat → Prop} {T : cS} {gT : Nat} {Q : Nat → Prop} {β : Nat → Nat} {F : Nat → Nat → Nat → Prop} {loc par : Nat → Nat → Nat} {ty : Nat → Nat × Nat} {G : Nat → Nat → Nat → Nat × Nat × LL → Prop} {D K : List Nat} {z nn g0 g1 g3 g4 g5 gn k d i s gv id o r0 bo ba : Nat} {tq : Nat → Nat × Nat} {C r : List Lv} {x : Lv} {S X Sr V1 : cS} {l' : List (Nat × Nat)}
theorem make_2 (hC : CIg 0 (fun q => gC (x :: r) q + dl k q) F loc par ty G tq (x :: r) X) (hk : lv X k) (hx : vL x = ((i, 1) :: l', s)) (hi : vH x = i + 1 + gv) (hE : mkEC d id gv k o S X) (hfn : h_kd X o ≠ 3) (hg : gv ≠ 0) : ∃ S' K, Ans (d + 14) 265 [.ref 52, .int (nI id), .int (nI gv)] S (some (.int (nI 2))) S' ∧ CI F loc par ty G tq (x :: r) S' ∧ KX K X S' ∧ ∀ P T gT Q β D z nn g0 g1 g3 g4 g5 gn Sr V1 r0 bo, XR P T gT Q β F D z nn g0 g1 g3 g4 g5 gn tq (vAt x (vP x) (vQ x) (vH x + 1, vU x, vL x) :: r) (gst (vB x + i + 1) (topC (x :: r)) k X) V1 → mkER d ba gv r0 bo (h_kd X o = 3) Sr V1 → ∃ D' W, Ans (d + 14) 397 [.ref 61, .int (nI ba), .int (nI gv)] Sr (some (.int 0)) W ∧ sI W 6164 = nI 2 ∧ XRe P T gT Q β F D' z nn g0 g1 g3 g4 g5 gn tq x r S' W := by
  obtain ⟨S', K, hA, hCI, hK, eL⟩ := rel_made (d := d + 10) hC hk
  refine ⟨S', K, hE.2.2.1 hfn hg S' hA, hCI, hK, fun P T gT Q β D z nn g0 g1 g3 g4 g5 gn Sr V1 r0 bo hX hR => ?_⟩
  have hX1 := XRe_gst hX hC.2.1 hx (by omega) (fun y hy => cCal_lo hC.2.2.2.2.1 y hy)
  have hX2 := XRe_KX hX1 (mHS_cl hC.1) (mHS_ok hC.1) hK eL
  exact ⟨_, _, hR.2.1 hfn (by omega), rIe _ _ _, XRe_I hX2 (Or.inl rfl)⟩
end
