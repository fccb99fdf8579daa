/-! CALLS OF CLASSES: init cannot begin: an error on both sides -/
section
variable {P : Nat → Prop} {T : cS} {gT : Nat} {Q : Nat → Prop} {β : Nat → Nat} {F : Nat → Nat → Nat → Prop} {loc par : Nat → Nat → Nat} {ty : Nat → Nat × Nat} {G : Nat → Nat → Nat → Nat × Nat × LL → Prop} {D K : List Nat} {z nn g0 g1 g3 g4 g5 gn k d i s gv id o r0 bo ba e : Nat} {tq : Nat → Nat × Nat} {C r : List Lv} {x : Lv} {S X Sr V1 : cS} {l' : List (Nat × Nat)}
theorem make_e (hC : CIg 0 (fun q => gC (x :: r) q + dl k q) F loc par ty G tq (x :: r) X) (hk : lv X k) (hx : vL x = ((i, 1) :: l', s)) (hi : vH x = i + 1 + gv) (hE : mkEC d id gv k o S X) (hfn : h_kd X o = 3) (he : 1 ≤ e ∧ e ≤ 100) (hA : Ans (d + 13) 254 [.ref 52, .int (nI o), .int (nI gv), .int (nI k), .int (nI k)] X (some (.int (nI e))) X) : ∃ S' K, Ans (d + 14) 265 [.ref 52, .int (nI id), .int (nI gv)] S (some (.int (nI e))) S' ∧ CI F loc par ty G tq (x :: r) S' ∧ KX K X S' ∧ ∀ P T gT Q β D z nn g0 g1 g3 g4 g5 gn Sr V1 V2 r0 bo, XR P T gT Q β F D z nn g0 g1 g3 g4 g5 gn tq (vAt x (vP x) (vQ x) (vH x + 1, vU x, vL x) :: r) (gst (vB x + i + 1) (topC (x :: r)) k X) V2 → mkER d ba gv r0 bo (h_kd X o = 3) Sr V1 → Ans (d + 13) 396 [.ref 61, .int (nI bo), .int (nI ba), .int (nI gv), .int (nI r0), .int (nI 1)] V1 (some (.int (nI 0))) (wI 6164 (nI e) V2) → ∃ D' W, Ans (d + 14) 397 [.ref 61, .int (nI ba), .int (nI gv)] Sr (some (.int (nI 0))) W ∧ sI W 6164 = nI e ∧ XRe P T gT Q β F D' z nn g0 g1 g3 g4 g5 gn tq x r S' W := by
  obtain ⟨S', K, hA2, hCI, hK, eL⟩ := rel_made (d := d + 10) hC hk
  refine ⟨S', K, hE.2.1 hfn e X S' he hA hA2, hCI, hK, fun P T gT Q β D z nn g0 g1 g3 g4 g5 gn Sr V1 V2 r0 bo hX hR a => ?_⟩
  have hX1 := XRe_gst hX hC.2.1 hx (by omega) (fun y hy => cCal_lo hC.2.2.2.2.1 y hy)
  have hX2 := XRe_KX hX1 (mHS_cl hC.1) (mHS_ok hC.1) hK eL
  exact ⟨_, _, hR.2.2 hfn 0 _ (Or.inl rfl) a, rIe _ _ _, XRe_I hX2 (Or.inl rfl)⟩
end
