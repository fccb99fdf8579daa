/-! CALLS OF CLASSES: the name init, told to both beside the ghost -/
section
variable {P : Nat → Prop} {T : cS} {gT : Nat} {Q : Nat → Prop} {β : Nat → Nat} {F : Nat → Nat → Nat → Prop} {loc par : Nat → Nat → Nat} {D : List Nat} {z nn g0 g1 g3 g4 g5 gn k d b t : Nat} {tq : Nat → Nat × Nat} {C : List Lv} {X V W Sc Sr : cS}
theorem XN_gst (h : XN Q β F D z nn g0 g1 g3 g4 g5 (gst b t k X) Sr) (hR : rwL X) : XN Q β F D z nn g0 g1 g3 g4 g5 X Sr := by
  obtain ⟨hF, _⟩ := gst_f b t k X
  have eA : sA (gst b t k X) = sA X := funext fun a => hF.A (fun c => by cases c)
  have elv : ∀ o, lv X o ↔ lv (gst b t k X) o := fun o => by unfold lv; rw [eA]
  have eL : ∀ a, a ≠ 47 → a ≠ 48 → sL X a = sL (gst b t k X) a := fun a h1 h2 => (hF.2.1 a (by simp only [List.mem_cons, List.not_mem_nil, or_false]; omega)).symm
  have eQ : sQ (gst b t k X) = sQ X := hF.2.2.2.1
  obtain ⟨h1, h2, h3⟩ := h
  refine ⟨HR_c h1 elv (fun j hj => ⟨by rw [eA], by rw [eA], by rw [eA], by rw [eA], by rw [eA], fun i _ => ?_⟩), NMw_E h2 (eL 21 (by decide) (by decide)) (eL 22 (by decide) (by decide)) (eL 17 (by decide) (by decide)) (eL 18 (by decide) (by decide)) ⟨rfl, rfl, rfl, rfl⟩ rfl rfl rfl, h3⟩
  have er : h_row (gst b t k X) j = h_row X j := by unfold h_row; rw [eQ]
  rw [er]
  have hn : h_row X j ≠ 47 ∧ h_row X j ≠ 48 := by
    unfold h_row
    cases hq : sQ X 11 j with
    | none => exact ⟨by decide, by decide⟩
    | some a =>
      have := (hR j a hj.2.1 hq).1
      show a ≠ 47 ∧ a ≠ 48
      omega
  rw [eL _ hn.1 hn.2]
theorem mkR_1 (hX : XR P T gT Q β F D z nn g0 g1 g3 g4 g5 gn tq C (gst b t k X) V) (hR : rwL X) (h105 : ∀ i, i < 4 → sA V 105 i = nI (iniB i)) (hroom : gn < 2 ^ 15 ∨ ∃ r, r < nn ∧ rnH V g0 g1 r = e_H iniB 4 ∧ rnL V g0 g1 r = e_L iniB 4) (h35 : 35 ≤ z) (hW : c_is X (e_H iniB 4) (e_L iniB 4) 34) : ∃ rr V1 Q' nn' h0 h1 h3 h4 h5 hn, Ans (d + 8) 294 [.ref 61, .ref 105, .int (nI 0), .int (nI 4)] V (some (.int (nI rr))) V1 ∧ XR P T gT Q' β F D z nn' h0 h1 h3 h4 h5 hn tq C (gst b t k X) V1 ∧ XN Q' β (Fnm F 34 rr) D z nn' h0 h1 h3 h4 h5 X V1 ∧ Fnm F 34 rr 34 0 rr ∧ rr < 2 ^ 18 ∧ nmF g0 g1 g3 g4 g5 V V1 ∧ (∀ p, p < 1500 → thE V V1 p) ∧ (sA V1 91 = sA V 91 ∧ sL V1 92 = sL V 92 ∧ sL V1 93 = sL V 93 ∧ sI V1 6151 = sI V 6151) := by
  obtain ⟨Q', nn', h0, h1, h3, h4, h5, hn, V1, rr, hA, hX1, ⟨r1, r2, r3⟩, hF, hK, hE⟩ := XR_nmo (d := d) hX h105 hroom
  obtain ⟨_, e47, e48, e46⟩ := gst_f b t k X
  have hfr := (gst_f b t k X).1
  have e17 : sL (gst b t k X) 17 = sL X 17 := hfr.2.1 17 (by decide)
  have e18 : sL (gst b t k X) 18 = sL X 18 := hfr.2.1 18 (by decide)
  obtain ⟨w1, w2⟩ := hW
  obtain ⟨k3, k4⟩ := hX1.2.1.2.2.1
  have hn34 : nrel V1 h0 h1 34 rr := ⟨by rw [k3, e17, r2]; exact w1, by rw [k4, e18, r3]; exact w2⟩
  have hXF := XR_nmF hX1 (by omega) r1 hn34
  have hXN := XN_gst (XN_of hXF) hR
  have hng := hX.2.2.1.2.2.2.2.2.2.2.1
  have hlt : 108 ≤ 108 + (sS V).length := by omega
  have ne : ∀ {g a : Nat}, nG g → (a = 91 ∨ a = 92 ∨ a = 93) → a ≠ g := fun h ha c => by
    unfold nG at h
    omega
  have hh := hXN.2.2
  refine ⟨rr, V1, Q', nn', h0, h1, h3, h4, h5, hn, hA, hX1, hXN, Or.inr ⟨rfl, rfl, rfl⟩, by omega, hF, hE, hF.2.2.2.2.2.1 91 (by omega) (ne hng.1 (by omega)) (ne hng.2.1 (by omega)) (ne hng.2.2.1 (by omega)), hF.2.2.2.2.2.2 92 (by omega) (ne hng.2.2.2.1 (by omega)) (ne hng.2.2.2.2 (by omega)), hF.2.2.2.2.2.2 93 (by omega) (ne hng.2.2.2.1 (by omega)) (ne hng.2.2.2.2 (by omega)), hF.2.2.1 6151 (by omega)⟩
end
