/-! CALLS OF CLASSES: the instance is let go again -/
section
variable {P : Nat → Prop} {T : cS} {gT : Nat} {Q : Nat → Prop} {β : Nat → Nat} {F : Nat → Nat → Nat → Prop} {loc par : Nat → Nat → Nat} {ty : Nat → Nat × Nat} {G : Nat → Nat → Nat → Nat × Nat × LL → Prop} {D K : List Nat} {z nn g0 g1 g3 g4 g5 gn k d : Nat} {tq : Nat → Nat × Nat} {C r : List Lv} {x : Lv} {S S' X W Sc Sr : cS}
theorem XRe_KX (h : XRe P T gT Q β F D z nn g0 g1 g3 g4 g5 gn tq x r X W) (hcl : h_cl X) (hok : ∀ j, 1 ≤ j → j ≤ 1500 → h_ok X j) (hK : KX K X S') (eL : sL S' = sL X) : XRe P T gT Q β F (D ++ K.map β) z nn g0 g1 g3 g4 g5 gn tq x r S' W := by
  obtain ⟨a1, a2, a3, a4, a5, a6, a7, a8, a9, a10, a11⟩ := h
  have eI : ∀ i, i ∉ kxI → sI S' i = sI X i := fun i hi => hK.1.I hi
  have eA : ∀ a, a ∉ kxA → sA S' a = sA X a := fun a ha => hK.1.A ha
  have hN : tnE W W g0 g1 := ⟨rfl, rfl, rfl, rfl⟩
  refine ⟨HR_kill a1 hcl hok hK, NMw_E a2 (by rw [eL]) (by rw [eL]) (by rw [eL]) (by rw [eL]) hN rfl rfl rfl, a3, stkR_s a4 (by rw [eL]) (by rw [eL]) rfl rfl rfl, a5, a6, a7, lnC_E a8 (eA 55 (by decide)) (eI 5217 (by decide)) rfl, ?_, a10, a11⟩
  obtain ⟨⟨b1, b2⟩, ⟨o, o1, o2, o3, o4⟩, u⟩ := a9
  exact ⟨⟨by rw [eI _ (by decide)]; exact b1, by rw [eI _ (by decide)]; exact b2⟩, ⟨o, o1, by rw [eI _ (by decide)]; exact o2, o3, fun i hi => by rw [eA 50 (by decide)]; exact o4 i hi⟩, u⟩
theorem rel_made (h : CIg 0 (fun q => gC (x :: r) q + dl k q) F loc par ty G tq (x :: r) X) (hk : lv X k) : ∃ S' K, Ans (d + 3) 142 [.ref 2, .ref 6, .int (nI k)] X none S' ∧ CI F loc par ty G tq (x :: r) S' ∧ KX K X S' ∧ sL S' = sL X := by
  obtain ⟨S', K, hA, m1, k1, eL, _⟩ := rel_hold (d := d) (g' := gC (x :: r)) h.1 hk.2.1 (Or.inr hk) (fun q _ => rfl) (gC_0 _)
  have hr30 : r.length ≤ 30 := h.2.2.2.2.2.2.1.2.2.2
  obtain ⟨r1, r2, r3, _⟩ := h.2.2.2.2.2.2.1
  have hok := mHS_ok h.1
  have hlv := lv_KX k1
  have hEE : ∀ o, lv S' o → lv X o ∧ obE X S' o := fun o ho => by
    obtain ⟨a1, a2⟩ := (hlv o).mp ho
    exact ⟨a1, obE_KX k1 (hok o a1.1 a1.2.1) a2⟩
  obtain ⟨mm1, mm2, mm3⟩ := h.2.2.1
  have eb : lob (vL x) ≤ vH x := mm2.2.2.1
  have hs : srt (vL x).1 := mm2.2.1
  have hm' : mHS 0 (gC (x :: r)) (vB x + vH x) S' := m1
  have hmk : mkOk S' (vB x) (vH x) (vL x) := mkOk_K (n := vB x + vH x) mm1 (Nat.le_refl _) eb hs (fun i _ => by rw [eL]; exact ⟨rfl, rfl⟩) (fun i hi => hm'.2.2.2.2.1 i hi) (fun o ho => (hEE o ho).2.1)
  have hci := CI_lvg (L := []) (xm := 0) (g := fun q => gC (x :: r) q + dl k q) h hEE (rwL_KX h.2.1 k1) hm' (fun a ha => k1.1.A (fun c => by revert ha c; revert a; decide)) (by rw [eL]) (fun i _ => by rw [eL]; exact ⟨rfl, rfl⟩) hmk mm2 rfl (fun e y l'' hz => ⟨e, hz⟩) ⟨(k1.1.I (by decide)).trans r1, (k1.1.I (by decide)).trans r2, (k1.1.I (by decide)).trans r3⟩ (vP x) (vQ x)
  exact ⟨S', K, hA, hci, k1, eL⟩
end
