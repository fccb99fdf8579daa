/-! CALLS OF CLASSES: where init is, on both sides (220, 206, 156, 158 | 398, 399) -/
section
variable {Q : Nat → Prop} {β : Nat → Nat} {F : Nat → Nat → Nat → Prop} {loc par : Nat → Nat → Nat} {ty : Nat → Nat × Nat} {D : List Nat} {z nn g0 g1 g3 g4 g5 q rr id d : Nat} {S Sr : cS}
theorem init_L (hcA : h_cl S) (hoA : ∀ c, lv S c → h_ok S c) (htA : ∀ c, lv S c → tyO F loc par ty S c ∧ vlO S c) (hq : q < 4096) (hid : lv S id) (hk4 : sA S 3 id = nI 4) : ∃ hh o hi lo, (c_obj hi lo = nI o ∧ o ≤ 1500 ∧ (o = 0 ∨ lv S o)) ∧ hh ≤ 1500 ∧ (hh = 0 → o = 0) ∧ (∃ rb, Ans (d + 13) 220 [.ref 2, .int (nI id), .long (sL S 17 q), .long (sL S 18 q)] S (some (.int (nI hh))) S ∧ Ans (d + 13) 206 [.ref 2, .int (nI hh), .long (sL S 17 q), .long (sL S 18 q)] S (some (.int rb)) S ∧ Ans (d + 13) 156 [.ref 2, .int (nI hh), .int rb] S (some (.long hi)) S ∧ Ans (d + 13) 158 [.ref 2, .int (nI hh), .int rb] S (some (.long lo)) S) ∧ ∀ {F' : Nat → Nat → Nat → Prop} {rr : Nat}, F' q 0 rr → ∀ {Q : Nat → Prop} {β : Nat → Nat} {D : List Nat} {z nn g0 g1 g3 g4 g5 : Nat} {Sr : cS}, XN Q β F' D z nn g0 g1 g3 g4 g5 S Sr → Ans (d + 13) 398 [.ref 61, .int (nI (β id)), .int (nI rr)] Sr (some (.int (lkI β hh))) Sr ∧ (hh ≠ 0 → β hh < 1500 ∧ ∃ e t v2 v3 v4 v5 v6 v7 n m ev, tRef Sr (β hh) t v2 v3 v4 v5 v6 v7 n m ∧ e < n ∧ Ans (d + 13) 399 [.ref t, .int (nI 0), .long ((nI rr).toInt64), .long 0] Sr (some (.int (nI e))) Sr ∧ ev ≤ 4 ∧ sA Sr v2 e = nI ev ∧ ((ev ≠ 3 ∧ o = 0) ∨ (ev = 3 ∧ o ≠ 0 ∧ sL Sr v4 e = lN (β o)))) := by
  have m220 := ml_220
  have m398 := ml_398
  obtain ⟨hh, ⟨i1, _⟩, i2, i3⟩ := hold_B hoA (fun c hc => (htA c hc).1) hq ((ty id).2 + 1) id (Or.inr ⟨hid, hk4, by omega⟩)
  have hid1 := hid.1
  have hid2 := hid.2.1
  have hh15 : hh ≤ 1500 := by
    rcases i1 with c | c
    · omega
    · exact c.1.2.1
  have c220 : Ans (d + 13) 220 [.ref 2, .int (nI id), .long (sL S 17 q), .long (sL S 18 q)] S (some (.int (nI hh))) S := Ans.of (by rw [m220]; exact Nat.le_of_ble_eq_true rfl) (Bod.lv (by rfl) (mHd_1 (d := d + 4) (by omega) (fun lv1 p0 p2 p4 p6 p7 => i2 [] List.nodup_nil (fun y hy => by cases hy) (d + 4) lv1 p0 p2 p4 p6 p7)))
  have r398 : ∀ {F' : Nat → Nat → Nat → Prop} {rr : Nat}, F' q 0 rr → ∀ {Q : Nat → Prop} {β : Nat → Nat} {D : List Nat} {z nn g0 g1 g3 g4 g5 : Nat} {Sr : cS}, XN Q β F' D z nn g0 g1 g3 g4 g5 S Sr → Ans (d + 13) 398 [.ref 61, .int (nI (β id)), .int (nI rr)] Sr (some (.int (lkI β hh))) Sr := fun {F' rr} hF {Q β D z nn g0 g1 g3 g4 g5 Sr} hX => by
    have hrr := (XR_nm hX hF).2.2.1
    have e : lkI β id = nI (β id) := if_neg (by omega)
    have hba := (hX.1.ob hid).1
    have hb := i3 hF hX (d + 3)
    rw [e] at hb
    exact Ans.of (by rw [m398]; exact Nat.le_of_ble_eq_true rfl) (Bod.lv (by rfl) (rCw_1 (d := d + 4) (by omega) (by omega) (fun lv1 p0 p2 p3 => hb lv1 p0 p2 p3)))
  by_cases c0 : hh = 0
  · subst c0
    exact ⟨0, 0, 0, 0, ⟨by decide, by omega, Or.inl rfl⟩, by omega, fun _ => rfl, ⟨_, c220, (find_0 (d := d + 11)), (hiOf_00 (d := d + 10)), (loOf_00 (d := d + 10))⟩, fun {F' rr} hF {Q β D z nn g0 g1 g3 g4 g5 Sr} hX => ⟨r398 hF hX, fun c => absurd rfl c⟩⟩
  · obtain ⟨hlh, h4h, e, hkh⟩ := i1.resolve_left c0
    have ek := kd_of h4h (by omega)
    have oko := hoA hh hlh
    have hw4 : c_width (h_kd S hh) = 4 := by rw [ek]; rfl
    obtain ⟨oe, hka, hfi⟩ := find_C2 hlh oko hw4 (sL S 17 q) (sL S 18 q)
    cases oe with
    | none => exact absurd hkh.2.1 (hka e hkh.1)
    | some e2 =>
      have he2 : e2 < h_n S hh := hka.1
      have hn4 := h_n_le oko
      obtain ⟨o, o1, o2, o3⟩ := ent_o oko hcA hlh he2
      obtain ⟨x1, x2⟩ := ent_C (d := d + 10) hlh oko he2
      have hv0 := ((htA hh hlh).2.1 e2 he2).2 (by rw [h4h]; decide)
      refine ⟨hh, o, h_hi S hh e2, h_lo S hh e2, ⟨o2, o1, o3⟩, hh15, fun c => absurd c c0, ⟨fI (some e2), c220, hfi (d + 11), x1, x2⟩, fun {F' rr} hF {Q β D z nn g0 g1 g3 g4 g5 Sr} hX => ⟨r398 hF hX, fun _ => ?_⟩⟩
      obtain ⟨t, v2, v3, v4, v5, v6, v7, n, m, bt, t1, t2, t108, ⟨N, tS⟩, tR, dd, tl, tk, f0, f1, f2, f3, f4, f5⟩ := HR_o hX.1 hlh
      have hf : Ans (d + 13) 399 [.ref t, .int (nI 0), .long ((nI rr).toInt64), .long 0] Sr (some (.int (fI (some e2)))) Sr := find_A (d := d + 4) hX hF hlh (Or.inl ek) hka t1
      have hv := f3 e2 he2
      obtain ⟨ev, q1, q2, q3⟩ := vr_k hv hv0
      obtain ⟨o', b1, b2, b3⟩ := vrel_ob hv
      have eo : o' = o := nI_j (by omega) (by omega) (b2.symm.trans o2)
      subst eo
      refine ⟨bt, e2, t, v2, v3, v4, v5, v6, v7, n, m, ev, tR, by omega, hf, q1, q2, ?_⟩
      rcases b3 with ⟨u1, u2⟩ | ⟨u1, u2, u3⟩
      · exact Or.inl ⟨fun c => u2 (by rw [q2, c]), u1⟩
      · exact Or.inr ⟨nI_j (by omega) (by omega) (q2.symm.trans u2), by omega, u3⟩
end
