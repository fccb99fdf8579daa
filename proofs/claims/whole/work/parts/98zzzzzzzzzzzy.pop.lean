/-! FLOW ON BOTH SIDES: values go, whatever they are -/
section
variable {P : Nat → Prop} {T : cS} {gT : Nat} {Q : Nat → Prop} {β β' : Nat → Nat} {F : Nat → Nat → Nat → Prop} {loc par : Nat → Nat → Nat} {ty : Nat → Nat × Nat} {G : Nat → Nat → Nat → Nat × Nat × LL → Prop} {D D' K : List Nat} {z nn g0 g1 g3 g4 g5 gn d d' v n m p q p' q' pT k e e1 oc ln tp : Nat} {tq : Nat → Nat × Nat} {C r : List Lv} {x : Lv} {S S' S1 X W Sc Sr : cS} {w : Nat → Int32} {s' : Nat × Nat × LL} {St : (Nat → Prop) → cS → Prop} {ok : List Lv → Prop} {a1 a2 : Int32}
theorem mtX_0 (h : CI F loc par ty G tq (x :: r) S) (hK : KX K S S') : mtX 0 K S S S' := ⟨hK, CFm_KX hK, fun j _ _ _ => obE.refl S j, mHS_cl h.1, fun j h1 h2 => mHS_ok h.1 j h1 h2, fun _ => Iff.rfl, fun _ _ => rfl, rfl, rfl, rfl, rfl⟩
theorem XR_pop (h : XR P T gT Q β F D z nn g0 g1 g3 g4 g5 gn tq (x :: r) Sc Sr) (hcl : h_cl Sc) (hok : ∀ j, 1 ≤ j → j ≤ 1500 → h_ok Sc j) (hcal : cCal Sc (x :: r)) (hK : KX K Sc S') (hv : v ≤ vH x) (e : ∀ i, i < topC (x :: r) - v → sL S' 47 i = sL Sc 47 i ∧ sL S' 48 i = sL Sc 48 i) (htp : tp = topC (x :: r) - v + offC (x :: r)) (hW : sFr tp Sr W) (h51 : sI W 6151 = nI tp) : XR P T gT Q β F (D ++ K.map β) z nn g0 g1 g3 g4 g5 gn tq (vAt x (vP x) (vQ x) (vH x - v, vU x, vL x) :: r) S' W := by
  obtain ⟨a1, a2, a3, a4, a5, a6, a7, a8, a9, a10, a11⟩ := h
  have ht : topC (x :: r) = vB x + vH x := rfl
  have hgs := a3.2.2.2.2.2.2.2.1
  have hN := sFr_N hW ⟨hgs.1, hgs.2.1⟩
  have eI : ∀ i, i ∉ kxI → sI S' i = sI Sc i := fun i hi => hK.1.I hi
  have eA : ∀ a, a ∉ kxA → sA S' a = sA Sc a := fun a ha => hK.1.A ha
  have eWI : ∀ i, i ≠ 6151 → sI W i = sI Sr i := hW.2.2.2.2.2.1
  have eWA : ∀ a, a ≠ 91 → a ≠ 104 → a ≠ 104 → sA W a = sA Sr a := hW.2.2.2.2.2.2.1
  have eWL : ∀ a, a ≠ 92 → a ≠ 93 → sL W a = sL Sr a := hW.2.2.2.2.2.2.2.1
  refine ⟨HR_M (sFr_M hW) hN (HR_kill a1 hcl hok hK), ?_, rTb_E a3 hW.1 (fun i _ _ => by rw [hW.2.2.1]) (eWI _ (by decide)), ?_, ?_, ?_, triX_E (C := vAt x (vP x) (vQ x) (vH x - v, vU x, vL x) :: r) a7 (fun a ha => eWA a (fun c => by rw [c] at ha; revert ha; decide) (fun c => by rw [c] at ha; revert ha; decide) (fun c => by rw [c] at ha; revert ha; decide)), lnC_E (C := vAt x (vP x) (vQ x) (vH x - v, vU x, vL x) :: r) a8 (eA 55 (by decide)) (eI 5217 (by decide)) (eWA 98 (by decide) (by decide) (by decide)), ?_, rKp_s a10 a11 hW, a11⟩
  · exact NMw_E a2 (hK.1.2.1 21 (by decide)) (hK.1.2.1 22 (by decide)) (hK.1.2.1 17 (by decide)) (hK.1.2.1 18 (by decide)) hN (eWA g3 (nG_ne hgs.2.2.1 (by omega)) (nG_ne hgs.2.2.1 (by omega)) (nG_ne hgs.2.2.1 (by omega))) (eWL g4 (nG_ne hgs.2.2.2.1 (by omega)) (nG_ne hgs.2.2.2.1 (by omega))) (eWL g5 (nG_ne hgs.2.2.2.2 (by omega)) (nG_ne hgs.2.2.2.2 (by omega)))
  · obtain ⟨b1, b2, b3⟩ := a4
    have eo : offC (x :: r) = mkb x + offC r := rfl
    refine ⟨fun i hi => ?_, fun hd => ?_, stkR_E (n := topC (x :: r) - v) b3 (fun y hy => by have := cCal_lo hcal y hy; omega) e (fun i hi => hW.2.2.2.2.2.2.2.2 i (by omega))⟩
    · have hi' : i < vH x - v := hi
      show vrel β (sL S' 47 (vB x + i)) (sL S' 48 (vB x + i)) (sA W 91 (vB x + i + offC (x :: r))) (sL W 92 (vB x + i + offC (x :: r))) (sL W 93 (vB x + i + offC (x :: r)))
      obtain ⟨c1, c2⟩ := e (vB x + i) (by omega)
      obtain ⟨d1, d2, d3⟩ := hW.2.2.2.2.2.2.2.2 (vB x + i + offC (x :: r)) (by omega)
      rw [c1, c2, d1, d2, d3]
      exact b1 i (by omega)
    · have hm : mkb x = 1 := if_neg hd
      obtain ⟨d1, d2, d3⟩ := hW.2.2.2.2.2.2.2.2 (vB x + offC r) (by omega)
      show sA W 91 (vB x + offC r) = _ ∧ sL W 92 (vB x + offC r) = _
      rw [d1, d2]
      exact b2 hd
  · exact rCal_E (C := vAt x (vP x) (vQ x) (vH x - v, vU x, vL x) :: r) a5 (by rw [hW.2.1]) (fun a ha => eWA a (fun c => by rw [c] at ha; revert ha; decide) (fun c => by rw [c] at ha; revert ha; decide) (fun c => by rw [c] at ha; revert ha; decide))
  · obtain ⟨b1, b2, b3⟩ := a6
    refine ⟨?_, by rw [eWI _ (by decide)]; exact b2, by rw [eWI _ (by decide)]; exact b3⟩
    rw [h51, htp]
    congr 1
    show vB x + vH x - v + offC (x :: r) = vB x + (vH x - v) + offC (x :: r)
    omega
  · obtain ⟨⟨b1, b2⟩, ⟨o, o1, o2, o3, o4⟩, u, u1, u2⟩ := a9
    refine ⟨⟨by rw [eWI _ (by decide), eI 5218 (by decide)]; exact b1, by rw [eWI _ (by decide), eI 5219 (by decide)]; exact b2⟩, ⟨o, o1, by rw [eI 4906 (by decide)]; exact o2, by rw [eWI _ (by decide)]; exact o3, fun i hi => by rw [eWA 106 (by decide) (by decide) (by decide), eA 50 (by decide)]; exact o4 i hi⟩, u, u1, by rw [eWI _ (by decide)]; exact u2⟩
/-- the topmost values go on both sides -/
theorem pop_B (h : CI F loc par ty G tq (x :: r) S) (hl : lob (vL x) + v ≤ vH x) : ∃ S', Ans (d + 9) 141 [.ref 46, .int (nI v)] S none S' ∧ (∀ p q, CI F loc par ty G tq (vAt x p q (vH x - v, vU x, vL x) :: r) S') ∧ CFr S S' ∧ ∀ P T gT Q β D z nn g0 g1 g3 g4 g5 gn Sr W, XR P T gT Q β F D z nn g0 g1 g3 g4 g5 gn tq (x :: r) S Sr → sFr (topC (x :: r) + offC (x :: r) - v) Sr W → sI W 6151 = nI (topC (x :: r) + offC (x :: r) - v) → ∃ D', XR P T gT Q β F D' z nn g0 g1 g3 g4 g5 gn tq (vAt x (vP x) (vQ x) (vH x - v, vU x, vL x) :: r) S' W := by
  obtain ⟨l1, l2, l3, l4, l5⟩ := CI_len h
  obtain ⟨S', K, b1, b2, b3, b4, _⟩ := mpop_T (d := d) (v := v) h.1 (by omega)
  have e : ∀ i, i < topC (x :: r) - v → sL S' 47 i = sL S 47 i ∧ sL S' 48 i = sL S 48 i := fun i _ => by rw [b4]; exact ⟨rfl, rfl⟩
  refine ⟨S', b1, fun p q => CI_mut h (mtX_0 h b3) b2 (rwL_KX h.2.1 b3) (fun _ => rfl) (fun hk => (h.2.2.2.1 0 hk).2) e hl p q, CFr_KX b3, fun P T gT Q β D z nn g0 g1 g3 g4 g5 gn Sr W hX hW h51 => ?_⟩
  exact ⟨_, XR_pop hX (mHS_cl h.1) (mHS_ok h.1) h.2.2.2.2.1 b3 (by omega) e (by omega) hW h51⟩
end
