/-! CALLS OF CLASSES: both sides make the instance -/
section
variable {P : Nat → Prop} {T : cS} {gT : Nat} {Q : Nat → Prop} {β β' : Nat → Nat} {F : Nat → Nat → Nat → Prop} {loc par : Nat → Nat → Nat} {ty : Nat → Nat × Nat} {G : Nat → Nat → Nat → Nat × Nat × LL → Prop} {D D' K : List Nat} {z nn g0 g1 g3 g4 g5 gn d dr n m p q k i s t b gv id : Nat} {g : Nat → Nat} {tq : Nat → Nat × Nat} {C r : List Lv} {x : Lv} {S S' S1 X W Sr V : cS}
theorem inst_B (h : CI F loc par ty G tq (x :: r) S) (hid : lv S id) (hk4 : sA S 3 id = nI 4) : (nLive S = 1500 ∧ Ans (d + 2) 178 [.ref 2, .int (nI 5)] S (some (.int (nI 0))) S) ∨ (nLive S < 1500 ∧ ∃ k X0 X1 X2, Ans (d + 2) 178 [.ref 2, .int (nI 5)] S (some (.int (nI k))) X0 ∧ Ans (d + 2) 149 [.ref 2, .ref 6, .int (nI k)] X0 none X1 ∧ Ans (d + 2) 179 [.ref 2, .int (nI k), .int (nI 0), .int (nI id), .int (nI 0)] X1 none X2 ∧ nbX k (fun q => gC (x :: r) q + dl k q) (topC (x :: r)) S X2 ∧ (sA X2 3 k = nI 5 ∧ sA X2 7 k = nI id ∧ sA X2 8 k = nI 0 ∧ sA X2 9 k = nI 0 ∧ sA X2 10 k = nI 0) ∧ CIg 0 (fun q => gC (x :: r) q + dl k q) F loc par ty G tq (x :: r) X2 ∧ ∀ (P : Nat → Prop) (T : cS) (gT : Nat) (Q : Nat → Prop) (β : Nat → Nat) (D : List Nat) (z nn g0 g1 g3 g4 g5 gn : Nat) (Sr : cS), XR P T gT Q β F D z nn g0 g1 g3 g4 g5 gn tq (x :: r) S Sr → ∃ β' D' r0 s S1, β' k = r0 ∧ r0 < 1500 ∧ (∀ j, j ≠ k → β' j = β j) ∧ Ans (dr + 10) 364 [.ref 61, .int (nI 5)] Sr (some (.int (nI r0))) (rsT r0 s (nI 5) S1) ∧ sQ (rsT r0 s (nI 5) S1) 86 r0 = some s ∧ 108 ≤ s ∧ (∃ N, (sS (rsT r0 s (nI 5) S1))[s - 108]? = some (13, N)) ∧ XR P T gT Q β F D' z nn g0 g1 g3 g4 g5 gn tq (x :: r) S S1 ∧ sL (rsT r0 s (nI 5) S1) = sL S1 ∧ XR P T gT Q β' F D' z nn g0 g1 g3 g4 g5 gn tq (x :: r) X2 (wI (100 * s + 11) (nI (β id)) (rsT r0 s (nI 5) S1))) := by
  rcases nb_create (d := d) (kd := 5) h.1 h.2.1 (by omega) (by omega) with ⟨a, b⟩ | ⟨a, k, X0, b1, b2, b3, b7, b8, b9, b10⟩
  · exact Or.inl ⟨a, b⟩
  · have hr30 : r.length ≤ 30 := h.2.2.2.2.2.2.1.2.2.2
    have hk0 := nbX_lk b2
    obtain ⟨X1, A1, m1, n1, e1, i1⟩ := nb_hold (d := d + 1) b2 (fun q => by have := gC_le (C := x :: r) q; rw [List.length_cons] at this; omega)
    have ek1 := e1 k hk0.1 hk0.2.1
    obtain ⟨X2, A2, n2, c3, c7, c8, c9, c10⟩ := nb_link (d := d) (i := nI 0) (y := id) (u := 0) n1 (by rw [ek1.2.1]; exact b7) (by rw [ek1.2.2.1]; exact b8) (Or.inr hid) (Or.inl rfl)
    have hk := nbX_lk n2
    have ek3 : sA X2 3 k = nI 5 := by rw [c3, ek1.1]; exact b3
    have ek10 : sA X2 10 k = nI 0 := by rw [c10, ek1.2.2.2.2.1]; exact b10
    have ekd : h_kd X2 k = 5 := kd_of ek3 (by omega)
    have en : h_n X2 k = 0 := by
      unfold h_n h_z
      rw [ek10, gN_nI (by omega)]
      split <;> rfl
    have hnk := n2.2.2.2.1
    have hne : id ≠ k := fun c => hnk (c ▸ hid)
    have hm0 : mHS 0 (fun q => gC (x :: r) q + dl k q) (topC (x :: r)) X2 := mHS_up n2.1 (by show 0 < gC (x :: r) k + dl k k; rw [dl_e hk.1]; omega)
    have hid2 : lv X2 id ∧ sA X2 3 id = nI 4 := ⟨(n2.2.2.2.2.1 id).mpr (Or.inl hid), by rw [(n2.2.2.2.2.2.1 id hid).1]; exact hk4⟩
    have hty : tyO F loc par ty X2 k ∧ vlO X2 k := by
      refine ⟨⟨fun c => ?_, fun c => ?_, fun c => ?_, fun _ => ⟨c8, id, c7, hid2.1, hid2.2⟩, fun c => ?_, fun c => ?_⟩, fun i hi => by omega, fun _ i hi => by omega⟩
      · rw [ek3] at c
        exact absurd c (by decide)
      · rw [ek3] at c
        exact absurd c (by decide)
      · rw [ek3] at c
        exact absurd c (by decide)
      · rw [ek3] at c
        exact absurd c (by decide)
      · rw [ek3] at c
        exact absurd c (by decide)
    have hCk := CIg_of (g := gC (x :: r)) h n2 (fun j => Nat.le_add_right _ _) (fun _ _ => rfl) hty
    have hC0 : CIg 0 (fun q => gC (x :: r) q + dl k q) F loc par ty G tq (x :: r) X2 := ⟨hm0, hCk.2⟩
    refine Or.inr ⟨a, k, X0, X1, X2, b1, A1, A2, n2, ⟨ek3, c7, c8, c9, ek10⟩, hC0, fun P T gT Q β D z nn g0 g1 g3 g4 g5 gn Sr hX => ?_⟩
    obtain ⟨r0, s, S1, D', r1, r2, r3, r4, r5, r6, r7⟩ := (new_R (d := dr) (kd := nI 5) h hX).2 a
    obtain ⟨u1, u2, u3, u4, u5, u6, u7, u8, u9, u10, u11, u12, u13⟩ := rsT_f (kd := nI 5) r1 r3 r4
    obtain ⟨t108, _, N, tS⟩ := tOk_t r4
    obtain ⟨β', eb, eo⟩ : ∃ β' : Nat → Nat, β' k = r0 ∧ ∀ j, j ≠ k → β' j = β j := ⟨fun j => if j = k then r0 else β j, if_pos rfl, fun j hj => if_neg hj⟩
    obtain ⟨y1, y2⟩ := tF_I (j := 11) (q := nI (β id)) u1 u2 (by omega)
    have i11 : ∀ i, i ≠ 100 * s + 11 → sI (wI (100 * s + 11) (nI (β id)) (rsT r0 s (nI 5) S1)) i = sI (rsT r0 s (nI 5) S1) i := fun i hi => if_neg hi
    have hi1 : id ≤ 1500 := hid.2.1
    have hi0 : 1 ≤ id := hid.1
    refine ⟨β', D', r0, s, S1, eb, r1, eo, r6, r3, t108, ⟨N, tS⟩, r5, u12, ?_⟩
    refine XR_nb h r5 n2 r1 r2 r3 y1 y2 (by exact u7) eb eo (obR_0 (t := s) ?_ ?_ en (by rw [eb]; exact y2) (by rw [eb]; exact r1) (by rw [eb]; exact u7) ?_ ?_ ⟨fun c => ?_, fun c => ?_⟩)
    · rw [i11 _ (by omega), ek3]
      exact u3
    · rw [i11 _ (by omega)]
      exact u4
    · rw [c7, rIe]
      exact Or.inr ⟨id, hi0, hi1, rfl, by rw [eo id hne]⟩
    · rw [c8, i11 _ (by omega), u6]
      exact Or.inl ⟨rfl, rfl⟩
    · rw [ek3] at c
      exact absurd c (by decide)
    · rw [ek3] at c
      exact absurd c (by decide)
end
