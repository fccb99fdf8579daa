/-! DEEDS ON BOTH SIDES: an item is put -/
section
variable {P : Nat → Prop} {T : cS} {gT : Nat} {Q : Nat → Prop} {β : Nat → Nat} {F : Nat → Nat → Nat → Prop} {loc par : Nat → Nat → Nat} {ty : Nat → Nat × Nat} {G : Nat → Nat → Nat → Nat × Nat × LL → Prop} {D D' K : List Nat} {z nn g0 g1 g3 g4 g5 gn d v o t k e n m ob_ kb vb v2 v3 v4 v5 v6 v7 : Nat} {tq : Nat → Nat × Nat} {C r : List Lv} {x : Lv} {g : Nat → Nat} {Sc Sr S S' X W W0 : cS} {hi lo a b kh kl : Int64} {kd : Int32}
theorem XR_I (h : XR P T gT Q β F D z nn g0 g1 g3 g4 g5 gn tq (x :: r) Sc Sr) {i : Nat} {n : Int32} (hi : i = 6164 ∨ i = 6167) : XR P T gT Q β F D z nn g0 g1 g3 g4 g5 gn tq (x :: r) Sc (wI i n Sr) := by
  obtain ⟨a1, a2, a3, a4, a5, a6, a7, a8, a9, a10, a11⟩ := h
  have eI : ∀ j, j ≠ i → sI (wI i n Sr) j = sI Sr j := fun j hj => if_neg hj
  have hN : tnE Sr (wI i n Sr) g0 g1 := ⟨rfl, rfl, rfl, rfl⟩
  refine ⟨HR_M (rM_I (by omega) (rM.refl _)) hN a1, NMw_E a2 rfl rfl rfl rfl hN rfl rfl rfl, rTb_E a3 rfl (fun _ _ _ => rfl) (eI _ (by omega)), stkR_s a4 rfl rfl rfl rfl rfl, rCal_E a5 rfl (fun _ _ => rfl), ⟨by rw [eI _ (by omega)]; exact a6.1, by rw [eI _ (by omega)]; exact a6.2.1, by rw [eI _ (by omega)]; exact a6.2.2⟩, triX_E a7 (fun _ _ => rfl), lnC_E a8 rfl rfl rfl, ?_, ?_, a11⟩
  · obtain ⟨⟨b1, b2⟩, ⟨o, o1, o2, o3, o4⟩, u, u1, u2⟩ := a9
    exact ⟨⟨by rw [eI _ (by omega)]; exact b1, by rw [eI _ (by omega)]; exact b2⟩, ⟨o, o1, o2, by rw [eI _ (by omega)]; exact o3, o4⟩, u, u1, by rw [eI _ (by omega)]; exact u2⟩
  · obtain ⟨b1, b2, b3, b4, b5, b6, b7, b8, b9⟩ := a10
    exact ⟨b1, fun j hj => by rw [eI _ (by omega)]; exact b2 j hj, b3, b4, b5, b6, fun m zm hm hs j hj => ⟨by rw [eI _ (by omega)]; exact (b7 m zm hm hs j hj).1, (b7 m zm hm hs j hj).2⟩, b8, b9⟩
/-- an object and its thing -/
theorem XR_o (h : CI F loc par ty G tq (x :: r) S) (hX : XR P T gT Q β F D z nn g0 g1 g3 g4 g5 gn tq (x :: r) S Sr) (hl : lv S o) : ∃ t v2 v3 v4 v5 v6 v7 n m, β o < 1500 ∧ sQ Sr 86 (β o) = some t ∧ tOk Sr (β o) t ∧ 108 ≤ t ∧ (∃ N, (sS Sr)[t - 108]? = some (13, N)) ∧ tRef Sr (β o) t v2 v3 v4 v5 v6 v7 n m ∧ dsV v2 v3 v4 v5 v6 v7 ∧ tLn n m ∧ (∀ j, j < m → ∃ e, e < 2 ^ 20 ∧ sA Sr v3 j = nI e) ∧ sI Sr (100 * t + 0) = sA S 3 o ∧ sI Sr (100 * t + 1) = nI (h_n S o) ∧ h_n S o ≤ n ∧ (∀ i, i < h_n S o → vrel β (h_hi S o i) (h_lo S o i) (sA Sr v2 i) (sL Sr v4 i) (sL Sr v5 i)) ∧ (c_width (h_kd S o) = 4 → h_n S o ≤ m ∧ ∀ i, i < h_n S o → keyR β Sr g0 g1 nn (h_kd S o) (h_kh S o i) (h_kl S o i) (sA Sr v3 i) (sL Sr v6 i) (sL Sr v7 i)) ∧ sA Sr 87 (β o) = nI 1 := by
  have hob := hX.1.ob hl
  obtain ⟨t, t1, t2⟩ := hX.1.th hl
  obtain ⟨g1', _, N, g3'⟩ := tOk_t t2
  have t2' := t2
  obtain ⟨v2, v3, v4, v5, v6, v7, n, m, wr, wd, wl, wk⟩ := t2'
  obtain ⟨c2, c3, c4, c5, c6⟩ := obR_x hob t1 wr
  have h87 : sA Sr 87 (β o) = nI 1 := (hX.1.2.2.2.2.2.2.2.2.2.2 (β o) hob.1).resolve_left hob.2.1
  exact ⟨t, v2, v3, v4, v5, v6, v7, n, m, hob.1, t1, t2, g1', ⟨N, g3'⟩, wr, wd, wl, wk, c2, c3, c4, c5, c6, h87⟩
/-- what the object on the stack is, in the reference: is it a list, a dict; its thing -/
theorem XR_is (h : CI F loc par ty G tq (x :: r) S) (hX : XR P T gT Q β F D z nn g0 g1 g3 g4 g5 gn tq (x :: r) S Sr) (h1 : ob_ < vH x) (ho : c_obj (sL S 47 (topC (x :: r) - 1 - ob_)) (sL S 48 (topC (x :: r) - 1 - ob_)) = nI o) (hol : o = 0 ∨ lv S o) (ho2 : o ≤ 1500) : (∀ kq, kq = 1 ∨ kq = 2 → h_kd S o ≠ kq → Ans (d + 9) 363 [.ref 61, .int (nI (topC (x :: r) + offC (x :: r) - 1 - ob_)), .int (nI kq)] Sr (some (.int (nI 0))) Sr) ∧ ∀ kq, kq = 1 ∨ kq = 2 → h_kd S o = kq → lv S o ∧ Ans (d + 9) 363 [.ref 61, .int (nI (topC (x :: r) + offC (x :: r) - 1 - ob_)), .int (nI kq)] Sr (some (.int (nI 1))) Sr ∧ ∀ t, sQ Sr 86 (β o) = some t → tOk Sr (β o) t → Ans (d + 9) 361 [.ref 61, .int (nI (topC (x :: r) + offC (x :: r) - 1 - ob_))] Sr (some (.ref t)) Sr := by
  obtain ⟨l1, l2, l3, l4, l5⟩ := CI_len h
  have hT := CI_T h
  obtain ⟨e, e4, ea, ek⟩ := XR_k h hX h1
  obtain ⟨o', p1, p2, p3⟩ := vrel_ob (XR_v hX h1)
  have eo : o' = o := nI_j (by omega) (by omega) (p2.symm.trans ho)
  subst eo
  have hk2 : topC (x :: r) + offC (x :: r) - 1 - ob_ < 20480 := by omega
  by_cases e3 : e = 3
  · have hl : lv S o' := by
      rcases p3 with ⟨_, c⟩ | ⟨c, _⟩
      · exact absurd (by rw [ea, e3]) c
      · exact hol.resolve_left (by omega)
    have ha : sL Sr 92 (topC (x :: r) + offC (x :: r) - 1 - ob_) = lN (β o') := by
      rcases p3 with ⟨_, c⟩ | ⟨_, _, c⟩
      · exact absurd (by rw [ea, e3]) c
      · exact c
    obtain ⟨t, v2, v3, v4, v5, v6, v7, n, m, c1, c2, c3, c4, ⟨N, c5⟩, c6, c7, c8, c9, c10, _⟩ := XR_o h hX hl
    obtain ⟨kd, zz, k7, z3, k3, k10, hkd, hzz, hw⟩ := kdz (mHS_ok h.1 o' hl.1 hl.2.1)
    have c2' : sI Sr (100 * t + 0) = nI kd := by rw [c10, k3]
    refine ⟨fun kq hq hne => ?_, fun kq hq he => ⟨hl, ?_, fun t' t1 t2 => tha_T hk2 (by rw [ea, e3]) ha c1 t1 t2⟩⟩
    · obtain ⟨_, j⟩ := isT_T (d := d) (S := Sr) (o := β o') (kq := kq) hk2 (by omega) ea e4
      exact (j t N kd e3 ha c1 c2 c4 c5 c2' k7).2 (by omega)
    · obtain ⟨_, j⟩ := isT_T (d := d) (S := Sr) (o := β o') (kq := kq) hk2 (by omega) ea e4
      exact (j t N kd e3 ha c1 c2 c4 c5 c2' k7).1 (by omega)
  · have e0' : o' = 0 := by
      rcases p3 with ⟨c, _⟩ | ⟨_, c, _⟩
      · exact c
      · rw [ea] at c
        exact absurd (nI_j (by omega) (by omega) c) e3
    have hk0 : h_kd S o' = 0 := by
      rw [e0']
      unfold h_kd
      rw [CI_z0 h]
      rfl
    refine ⟨fun kq hq hne => (isT_T (d := d) (S := Sr) (o := 0) (kq := kq) hk2 (by omega) ea e4).1 e3, fun kq hq he => by omega⟩
end
