/-! THE MACHINES, STEP BY STEP: a value in the place of some -/
theorem mHS_F {x t : Nat} {g : Nat → Nat} {S W : cS} {L1 L2 L3 : List Nat} (h : mHS x g t S) (hF : FrL L1 L2 L3 S W) (h1 : ∀ i, i ∈ L1 → i ∉ [213, 214, 215, 4603, 1608]) (h2 : ∀ a, a ∈ L2 → a ∉ [3, 4, 5, 6, 7, 8, 10, 12, 13]) (h3 : ∀ a, a ∈ L3 → (1 ≤ a ∧ a < 108) ∧ a ∉ [21, 22, 47, 48]) : mHS x g t W := by
  obtain ⟨p1, p2⟩ := Hp_anyL h.1 hF (fun i hi c => h1 i hi (by simp only [List.mem_cons, List.not_mem_nil, or_false] at c ⊢; omega)) h2 (fun a ha => (h3 a ha).1)
  exact mHS_ch h (fun i hi => hF.I (fun c => h1 i c (by simp only [List.mem_cons, List.not_mem_nil, or_false] at hi ⊢; omega))) (fun a ha => hF.2.1 a (fun c => (h3 a c).2 ha)) (hF.A (fun c => h2 3 c (by decide))) p1 (fun k _ _ => by rw [p2 k]; exact Nat.le_refl _)
section
variable {P : Nat → Prop} {T : cS} {gT : Nat} {Q : Nat → Prop} {β : Nat → Nat} {F : Nat → Nat → Nat → Prop} {loc par : Nat → Nat → Nat} {ty : Nat → Nat × Nat} {G : Nat → Nat → Nat → Nat × Nat × LL → Prop} {D K L1 L2 L3 : List Nat} {z nn g0 g1 g3 g4 g5 gn d v o : Nat} {tq : Nat → Nat × Nat} {C r : List Lv} {x : Lv} {Sc Sr S S' W : cS} {hi lo : Int64}
/-- registers of the class that no relation speaks of -/
theorem CI_F (h : CI F loc par ty G tq C S) (hF : FrL L1 L2 L3 S S') (h1 : ∀ i, i ∈ L1 → i ∉ [213, 214, 215, 4603, 1608, 5213, 5214, 5215]) (h2 : ∀ a, a ∈ L2 → a ∉ [3, 4, 5, 6, 7, 8, 9, 10, 12, 13, 54, 56, 57, 58, 59, 60]) (h3 : ∀ a, a ∈ L3 → (1 ≤ a ∧ a < 108) ∧ a ∉ [21, 22, 47, 48]) : CI F loc par ty G tq C S' := by
  obtain ⟨a1, a2, a3, a4, a5, a6, a7, a8, a9⟩ := h
  have eA : ∀ a, a ∈ [3, 4, 5, 6, 7, 8, 9, 10, 12, 13, 54, 56, 57, 58, 59, 60] → sA S' a = sA S a := fun a ha => hF.A (fun c => h2 a c ha)
  have eI : ∀ i, i ∈ [213, 214, 215, 4603, 1608, 5213, 5214, 5215] → sI S' i = sI S i := fun i hi => hF.I (fun c => h1 i c hi)
  have eL : ∀ a, a ∈ [21, 22, 47, 48] → sL S' a = sL S a := fun a ha => hF.2.1 a (fun c => (h3 a c).2 ha)
  have hm := mHS_F a1 hF (fun i hi c => h1 i hi (by simp only [List.mem_cons, List.not_mem_nil, or_false] at c ⊢; omega)) (fun a ha c => h2 a ha (by simp only [List.mem_cons, List.not_mem_nil, or_false] at c ⊢; omega)) h3
  have hl : ∀ k, lv S' k ↔ lv S k := fun k => by unfold lv; rw [eA 3 (by decide)]
  have hE : ∀ k, lv S k → obE S S' k := fun k hk => by
    obtain ⟨r1, r2⟩ := FrL_row hF (fun a ha => (h3 a ha).1) (mHS_ok a1 k hk.1 hk.2.1)
    exact obE_of (by rw [eA 3 (by decide)]) (by rw [eA 7 (by decide)]) (by rw [eA 8 (by decide)]) (by rw [eA 9 (by decide)]) (by rw [eA 10 (by decide)]) r1 r2
  refine ⟨hm, fun k a hk hq => ?_, ?_, fun k hk => ?_, cCal_E a5 (fun a ha => eA a (by simp only [List.mem_cons, List.not_mem_nil, or_false] at ha ⊢; omega)), ?_, ?_, triC_E a8 (eA 60 (by decide)), fun q hq => by rw [eL 21 (by decide)]; exact a9 q hq⟩
  · rw [hF.2.2.2.1] at hq
    rw [hF.2.2.2.2.1]
    exact a2 k a hk hq
  · refine stkC_K (n := topC C) a3 (fun y hy => ?_) (fun i _ => by rw [eL 47 (by decide), eL 48 (by decide)]; exact ⟨rfl, rfl⟩) hm.2.2.2.2.1 (fun o _ => by rw [eA 3 (by decide)])
    cases C with
    | nil => cases hy
    | cons x r =>
      rcases List.mem_cons.mp hy with e | hy
      · rw [e]; exact Nat.le_refl _
      · have := cCal_lo a5 y hy
        show _ ≤ vB x + vH x
        omega
  · have hk' := (hl k).mp hk
    obtain ⟨b1, b2⟩ := a4 k hk'
    exact ⟨tyO_K b1 (hE k hk') (fun o ho => ⟨fun _ => (hl o).mpr ho, fun _ => by rw [eA 3 (by decide)]⟩), vlO_K b2 (hE k hk')⟩
  · exact lvOk_K a6 (fun y hy => by
      obtain ⟨c1, c2⟩ := gC_pos hy
      exact ⟨fun c => hm.2.2.2.2.2.2.1 _ (c1 c), fun c => hm.2.2.2.2.2.2.1 _ (c2 c)⟩) (fun o _ => by rw [eA 3 (by decide)])
  · cases C with
    | nil => exact a7
    | cons x r =>
      obtain ⟨b1, b2, b3, b4⟩ := a7
      exact ⟨by rw [eI 5213 (by decide)]; exact b1, by rw [eI 5214 (by decide)]; exact b2, by rw [eI 5215 (by decide)]; exact b3, b4⟩
theorem CI_len (h : CI F loc par ty G tq (x :: r) S) : r.length ≤ 30 ∧ topC (x :: r) ≤ 18600 ∧ sI S 4603 = nI (topC (x :: r)) ∧ topC (x :: r) = vB x + vH x ∧ vH x ≤ 600 := by
  have h1 := h.2.2.2.2.2.2.1.2.2.2
  have h2 := cCal_b h.2.2.2.2.1 h.2.2.1
  have h3 : vH x ≤ 600 := h.2.2.1.2.1.2.2.2.1
  refine ⟨h1, ?_, h.1.2.2.1, rfl, h3⟩
  show vB x + vH x ≤ 18600
  omega
theorem CI_give2 (h : CI F loc par ty G tq (x :: r) S) (hv : v ≤ vH x) (hl : lob (vL x) + v ≤ vH x) (h6 : vH x - v + 1 ≤ 600) (ho : c_obj hi lo = nI o) (ho2 : o ≤ 1500) (hol : o = 0 ∨ lv S o) (h0 : c_kind hi ≠ 0 ∧ c_kind hi ≠ nI 5) : ∃ S' K, Ans (d + 9) 148 [.ref 46, .int (nI v), .long hi, .long lo] S (some (.int (nI 0))) S' ∧ KX K S S' ∧ (∀ p q, CI F loc par ty G tq (vAt x p q (vH x - v + 1, vU x, vL x) :: r) S') ∧ ∀ (P : Nat → Prop) (T : cS) (gT : Nat) (Q : Nat → Prop) (β : Nat → Nat) (D : List Nat) (z nn g0 g1 g3 g4 g5 gn : Nat) (Sr W : cS), XR P T gT Q β F D z nn g0 g1 g3 g4 g5 gn tq (x :: r) S Sr → sFr (topC (x :: r) - v + offC (x :: r)) Sr W → sI W 6151 = nI (topC (x :: r) - v + offC (x :: r) + 1) → vrel β hi lo (sA W 91 (topC (x :: r) - v + offC (x :: r))) (sL W 92 (topC (x :: r) - v + offC (x :: r))) (sL W 93 (topC (x :: r) - v + offC (x :: r))) → XR P T gT Q β F (D ++ K.map β) z nn g0 g1 g3 g4 g5 gn tq (vAt x (vP x) (vQ x) (vH x - v + 1, vU x, vL x) :: r) S' W := by
  obtain ⟨l1, l2, l3, l4, l5⟩ := CI_len h
  obtain ⟨S', K, b1, b2, b3, b4, b5, b6, b7, b8⟩ := mgive_T (d := d) (v := v) (hi := hi) (lo := lo) h.1 (show v ≤ topC (x :: r) by omega) (by omega) ho ho2 hol (Or.inl rfl) (fun k => by have := gC_le (C := x :: r) k; rw [List.length_cons] at this; omega)
  exact ⟨S', K, b1, b3, fun p q => CI_give h b3 hv b2 b4 b5 hl h6 h0 p q, fun P T gT Q β D z nn g0 g1 g3 g4 g5 gn Sr W hX hW h51 hvr => XR_give hX (mHS_cl h.1) (mHS_ok h.1) h.2.2.2.2.1 b3 hv b4 b5 b6 rfl hW h51 hvr⟩
/-- a value of the top level on both stacks, told from above -/
theorem XR_v (h : XR P T gT Q β F D z nn g0 g1 g3 g4 g5 gn tq (x :: r) Sc Sr) {i : Nat} (hi : i < vH x) : vrel β (sL Sc 47 (topC (x :: r) - 1 - i)) (sL Sc 48 (topC (x :: r) - 1 - i)) (sA Sr 91 (topC (x :: r) + offC (x :: r) - 1 - i)) (sL Sr 92 (topC (x :: r) + offC (x :: r) - 1 - i)) (sL Sr 93 (topC (x :: r) + offC (x :: r) - 1 - i)) := by
  have := h.2.2.2.1.1 (vH x - 1 - i) (by omega)
  have e : topC (x :: r) = vB x + vH x := rfl
  rw [show vB x + (vH x - 1 - i) = topC (x :: r) - 1 - i by omega, show topC (x :: r) - 1 - i + offC (x :: r) = topC (x :: r) + offC (x :: r) - 1 - i by omega] at this
  exact this
end
