/-! CALLS OF CLASSES: no function init, and nothing is given: the instance, on the class's side -/
section
variable {F : Nat → Nat → Nat → Prop} {loc par : Nat → Nat → Nat} {ty : Nat → Nat × Nat} {G : Nat → Nat → Nat → Nat × Nat × LL → Prop} {d i s gv id k o : Nat} {tq : Nat → Nat × Nat} {r : List Lv} {x : Lv} {S X : cS} {l' : List (Nat × Nat)}
theorem mk0_C (hC : CIg 0 (fun q => gC (x :: r) q + dl k q) F loc par ty G tq (x :: r) X) (hk : lv X k) (hx : vL x = ((i, 1) :: l', s)) (hi : vH x = i + 1 + 0) (hkc : c_kind (sL X 47 (vB x + i)) ≠ nI 5) (hE : mkEC d id 0 k o S X) (hfn : h_kd X o ≠ 3) (p q : Nat) : ∃ S' K, Ans (d + 14) 265 [.ref 52, .int (nI id), .int (nI 0)] S (some (.int (nI 0))) S' ∧ CI F loc par ty G tq (vAt x p q (i + 1, vU x, (l', s)) :: r) S' ∧ KX K X S' ∧ (∀ j, j < vB x + i → sL S' 47 j = sL X 47 j ∧ sL S' 48 j = sL X 48 j) ∧ sL S' 47 (vB x + i) = 4611686018427387904 ∧ sL S' 48 (vB x + i) = lN k := by
  have et : topC (x :: r) = vB x + vH x := rfl
  have hr30 : r.length ≤ 30 := hC.2.2.2.2.2.2.1.2.2.2
  have hcb := cCal_b hC.2.2.2.2.1 hC.2.2.1
  obtain ⟨m1, m2, m3⟩ := hC.2.2.1
  obtain ⟨b1, b2, b3, b4, b5⟩ := m2
  have b4 : vH x ≤ 600 := b4
  have hs : srt (vL x).1 := b2
  rw [hx] at hs m1
  have hg0 : 0 < (fun q => gC (x :: r) q + dl k q) k := by
    show 0 < gC (x :: r) k + dl k k
    rw [dl_e hk.1]
    omega
  obtain ⟨X2, K1, A1, n1, k1, e1, v1, v2, _, _⟩ := mgive_T (d := d + 4) (v := 1) (hi := 4611686018427387904) (lo := lN k) (o := k) hC.1 (by omega) (by omega) (ob_obj hk.2.1).1 hk.2.1 (Or.inr hk) (Or.inl rfl) (fun j => by
    have := gC_le (C := x :: r) j
    have : dl k j ≤ 1 := by unfold dl; split <;> omega
    rw [List.length_cons] at *
    show gC (x :: r) j + dl k j < 1000
    omega)
  rw [show topC (x :: r) - 1 = vB x + i by omega] at n1 e1 v1 v2
  have hk2 : lv X2 k := n1.2.2.2.2.2.2.1 k hg0
  obtain ⟨S', K2, A2, n2, k2, eL, _⟩ := rel_hold (d := d + 10) (g' := gC (x :: r)) n1 hk2.2.1 (Or.inr hk2) (fun q _ => rfl) (gC_0 _)
  have kk := KX_trans k1 k2 (mHS_cl n1) (mHS_ok hC.1)
  have hlv := lv_KX kk
  have hok := mHS_ok hC.1
  have hEE : ∀ o, lv S' o → lv X o ∧ obE X S' o := fun o ho => by
    obtain ⟨a1, a2⟩ := (hlv o).mp ho
    exact ⟨a1, obE_KX kk (hok o a1.1 a1.2.1) a2⟩
  have elow : ∀ j, j < vB x + i → sL S' 47 j = sL X 47 j ∧ sL S' 48 j = sL X 48 j := fun j hj => by rw [eL]; exact e1 j hj
  have w1 : sL S' 47 (vB x + i) = 4611686018427387904 := by rw [eL]; exact v1
  have w2 : sL S' 48 (vB x + i) = lN k := by rw [eL]; exact v2
  obtain ⟨r1, r2, r3, _⟩ := hC.2.2.2.2.2.2.1
  have hll : lob (l', s) ≤ i := hs.1
  have hm0 : mkOk X (vB x) (i + 1) (l', s) := ⟨fun j hj => ⟨(m1.1 j (by omega)).1, fun c => by
    rcases List.mem_cons.mp ((m1.1 j (by omega)).2 c) with c1 | c1
    · injection c1 with c2 _
      rw [c2] at c
      exact absurd c hkc
    · exact c1⟩, fun y hy => m1.2 y (List.mem_cons_of_mem _ hy)⟩
  have hm' : mHS 0 (gC (x :: r)) (vB x + (i + 1)) S' := n2
  have hmk : mkOk S' (vB x) (i + 1) (l', s) := mkOk_top hm0 hll hs.2 elow (fun j hj => hm'.2.2.2.2.1 j (by omega)) (fun o ho => (hEE o ho).2.1) (by rw [w1]; decide) (by rw [w1]; decide)
  have hut : vU x = tms l' := by
    have e : vU x = tms (vL x).1 := b1
    rw [hx] at e
    have e2 : tms ((i, 1) :: l') = (if (1 : Nat) = 0 then 1 else 0) + tms l' := rfl
    rw [e, e2, if_neg (by decide)]
    omega
  refine ⟨S', _, hE.2.2.2 hfn rfl X2 S' A1 A2, ?_, kk, elow, w1, w2⟩
  exact CI_lvg (L := []) (xm := 0) (g := fun q => gC (x :: r) q + dl k q) hC hEE (rwL_KX hC.2.1 kk) hm' (fun a ha => kk.1.A (fun c => by revert ha c; revert a; decide)) (kk.1.2.1 21 (by decide)) (fun j hj => elow j (by omega)) hmk ⟨hut, hs.2, by show lob (l', s) ≤ i + 1; omega, by show i + 1 ≤ 600; omega, b5⟩ (by rw [hx]) (fun e y l'' hz => ⟨(i, 1) :: e, by rw [hx]; have hz : l' = e ++ (y, 0) :: l'' := hz; rw [hz]; rfl⟩) ⟨(kk.1.I (by decide)).trans r1, (kk.1.I (by decide)).trans r2, (kk.1.I (by decide)).trans r3⟩ p q
end
