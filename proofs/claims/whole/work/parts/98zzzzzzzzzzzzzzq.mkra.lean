/-! CALLS OF CLASSES: the reference's side as a whole (397) -/
section
variable {P : Nat → Prop} {T : cS} {gT : Nat} {Q : Nat → Prop} {β : Nat → Nat} {F : Nat → Nat → Nat → Prop} {loc par : Nat → Nat → Nat} {ty : Nat → Nat × Nat} {G : Nat → Nat → Nat → Nat × Nat × LL → Prop} {D K : List Nat} {z nn g0 g1 g3 g4 g5 gn k d i gv r0 s id hh o : Nat} {tq : Nat → Nat × Nat} {C r : List Lv} {x : Lv} {X R0 Sr : cS}
theorem mkR_A (hC : CIg 0 (fun q => gC (x :: r) q + dl k q) F loc par ty G tq (x :: r) X) (hX : XR P T gT Q β F D z nn g0 g1 g3 g4 g5 gn tq (x :: r) X (wI (100 * s + 11) (nI (β id)) R0)) (hi : vH x = i + 1 + gv) (hk : 1 ≤ k ∧ k ≤ 1500) (hb : β k = r0) (hr : r0 < 1500) (hid : lv X id) (hcv : sL X 47 (vB x + i) = 4611686018427387904 ∧ sL X 48 (vB x + i) = lN id) (A364 : Ans (d + 13) 364 [.ref 61, .int (nI 5)] Sr (some (.int (nI r0))) R0) (hq : sQ R0 86 r0 = some s) (s108 : 108 ≤ s) (hs : ∃ N, (sS R0)[s - 108]? = some (13, N)) (h105 : ∀ j, j < 4 → sA R0 105 j = nI (iniB j)) (hgn : gn < 2 ^ 15) (h35 : 35 ≤ z) (hW : c_is X (e_H iniB 4) (e_L iniB 4) 34) (hol : o = 0 ∨ lv X o) (hk7 : h_kd X o ≤ 7) (hk3 : sA X 3 o = nI (h_kd X o)) (hc : hh = 0 → o = 0) (hL : ∀ {F' : Nat → Nat → Nat → Prop} {rr : Nat}, F' 34 0 rr → ∀ {Q : Nat → Prop} {β : Nat → Nat} {D : List Nat} {z nn g0 g1 g3 g4 g5 : Nat} {Sr : cS}, XN Q β F' D z nn g0 g1 g3 g4 g5 X Sr → Ans (d + 13) 398 [.ref 61, .int (nI (β id)), .int (nI rr)] Sr (some (.int (lkI β hh))) Sr ∧ (hh ≠ 0 → β hh < 1500 ∧ ∃ e t v2 v3 v4 v5 v6 v7 n m ev, tRef Sr (β hh) t v2 v3 v4 v5 v6 v7 n m ∧ e < n ∧ Ans (d + 13) 399 [.ref t, .int (nI 0), .long ((nI rr).toInt64), .long 0] Sr (some (.int (nI e))) Sr ∧ ev ≤ 4 ∧ sA Sr v2 e = nI ev ∧ ((ev ≠ 3 ∧ o = 0) ∨ (ev = 3 ∧ o ≠ 0 ∧ sL Sr v4 e = lN (β o))))) : ∃ V1 Q' nn' h0 h1 h3 h4 h5 hn, XR P T gT Q' β F D z nn' h0 h1 h3 h4 h5 hn tq (vAt x (vP x) (vQ x) (vH x + 1, vU x, vL x) :: r) (gst (vB x + i + 1) (topC (x :: r)) k X) V1 ∧ ((o = 0 ∨ h_kd X o ≠ 3) → gv = 0 → ∀ V2, Ans (d + 13) 391 [.ref 61, .int (nI (vB x + i + offC (x :: r) + 1)), .int (nI (vB x + i + offC (x :: r)))] V1 none V2 → Ans (d + 14) 397 [.ref 61, .int (nI (vB x + i + offC (x :: r))), .int (nI gv)] Sr (some (.int 1)) (wI 6151 (nI (vB x + i + offC (x :: r) + 1)) V2)) ∧ ((o = 0 ∨ h_kd X o ≠ 3) → 0 < gv → Ans (d + 14) 397 [.ref 61, .int (nI (vB x + i + offC (x :: r))), .int (nI gv)] Sr (some (.int 0)) (wI 6164 (nI 2) V1)) ∧ (o ≠ 0 → h_kd X o = 3 → ∀ (b : Nat) W', b = 0 ∨ b = 1 → Ans (d + 13) 396 [.ref 61, .int (nI (β o)), .int (nI (vB x + i + offC (x :: r))), .int (nI gv), .int (nI r0), .int (nI 1)] V1 (some (.int (nI b))) W' → Ans (d + 14) 397 [.ref 61, .int (nI (vB x + i + offC (x :: r))), .int (nI gv)] Sr (some (.int (nI b))) W') := by
  have m397 := ml_397
  have et : topC (x :: r) = vB x + vH x := rfl
  have hr30 : r.length ≤ 30 := hC.2.2.2.2.2.2.1.2.2.2
  have hcb := cCal_b hC.2.2.2.2.1 hC.2.2.1
  obtain ⟨m1, m2, m3⟩ := hC.2.2.1
  have h600 : vH x ≤ 600 := m2.2.2.2.1
  have hob : ∀ C : List Lv, offC C ≤ C.length := fun C => by
    induction C with
    | nil => exact Nat.le_refl _
    | cons a C ih =>
      have e : offC (a :: C) = mkb a + offC C := rfl
      have hm : mkb a ≤ 1 := by unfold mkb; split <;> omega
      rw [e, List.length_cons]
      omega
  have ho := hob (x :: r)
  rw [List.length_cons] at ho
  have hid1 := hid.1
  have hid2 := hid.2.1
  have hbid : β id < 1500 := (hX.1.ob hid).1
  obtain ⟨N, hsN⟩ := hs
  have r51 : sI (wI (100 * s + 11) (nI (β id)) R0) 6151 = nI (topC (x :: r) + offC (x :: r)) := by
    have e := XR_51 hX
    exact e
  -- the callee
  have hv := hX.2.2.2.1.1 i (by omega)
  rw [hcv.1, hcv.2] at hv
  have h92 : sL R0 92 (vB x + i + offC (x :: r)) = lN (β id) := by
    obtain ⟨o', b1, b2, b3⟩ := vrel_ob hv
    have : o' = id := nI_j (by omega) (by omega) (b2.symm.trans (ob_obj hid2).1)
    subst this
    rcases b3 with ⟨u1, _⟩ | ⟨_, _, u3⟩
    · omega
    · exact u3
  have h92' : (sL R0 92 (vB x + i + offC (x :: r))).toInt32 = nI (β id) := by rw [h92]; exact lN_i _
  obtain ⟨W, hXg, w51, w92, wF, hgo⟩ := mkR_E (d := d + 4) hC hX hi hk hb hr
  obtain ⟨V0, hV0⟩ : ∃ V0, V0 = wI 6151 (nI (topC (x :: r) + offC (x :: r) + 1)) (wL 92 (vB x + i + offC (x :: r) + 1) (nI r0).toInt64 (wA 91 (vB x + i + offC (x :: r) + 1) (nI 3) W)) := ⟨_, rfl⟩
  rw [← hV0] at hXg
  obtain ⟨pF, _, _, p4⟩ := put_sFr (u := vB x + i + offC (x :: r) + 1) (W := W) (tp := topC (x :: r) + offC (x :: r) + 1) (xa := (nI r0).toInt64) (kd := nI 3)
  rw [← hV0] at pF p4
  have v105 : ∀ j, j < 4 → sA V0 105 j = nI (iniB j) := fun j hj => by
    rw [pF.2.2.2.2.2.2.1 105 (by decide) (by decide) (by decide), wF.2.2.2.2.2.2.1 105 (by decide) (by decide) (by decide)]
    exact h105 j hj
  obtain ⟨rr, V1, Q', nn', h0, h1, h3, h4, h5, hn, A294, hX1, hXN, hFn, hrr, hnm, hth, e91, e92, e93, e51⟩ := mkR_1 (d := d + 5) hXg hC.2.1 v105 (Or.inl hgn) h35 hW
  obtain ⟨c2, hl⟩ := hL hFn hXN
  have v92 : (sL V1 92 (vB x + i + offC (x :: r))).toInt32 = nI (β id) := by
    rw [e92, (p4 (vB x + i + offC (x :: r)) (by omega)).2.1, w92]
    exact h92'
  have key := fun (lv2 : sm_L) (u0 : sm_get lv2 0 = some (.ref 61)) (u1 : sm_get lv2 1 = some (.int (nI (vB x + i + offC (x :: r))))) (u2 : sm_get lv2 2 = some (.int (nI gv))) (u3 : sm_get lv2 3 = some (.int (nI r0))) => mkR_2 (d := d) (hh := hh) (o := o) (id := id) hXN hol hk7 hk3 hbid (by omega : gv < 2 ^ 20) hr (by omega : vB x + i + offC (x :: r) + 1 < 20480) (by omega : rr < 2 ^ 20) w51 (by omega : topC (x :: r) + offC (x :: r) < 20480) hV0 (A294.up (by omega)) v92 hc c2 hl u0 u1 u2 u3
  have go : ∀ {b : Int32} {Sf : cS}, (∀ lv2, sm_get lv2 0 = some (.ref 61) → sm_get lv2 1 = some (.int (nI (vB x + i + offC (x :: r)))) → sm_get lv2 2 = some (.int (nI gv)) → sm_get lv2 3 = some (.int (nI r0)) → Bod (d + 13) 397 58 lv2 [] W (some (.int b)) Sf) → Ans (d + 14) 397 [.ref 61, .int (nI (vB x + i + offC (x :: r))), .int (nI gv)] Sr (some (.int b)) Sf := fun {b Sf} hB => Ans.of (by rw [m397]; exact Nat.le_of_ble_eq_true rfl) (Bod.lv (by rfl) (rMk_1 (d := d + 5) (by omega) (by omega) hr A364 s108 hq (by omega) h92' hbid hsN r51 (by omega) (fun lv1 p0 p1 p2 p3 p4' => hgo _ _ hB lv1 p0 p1 p2 p3 p4')))
  exact ⟨V1, Q', nn', h0, h1, h3, h4, h5, hn, hX1, fun hf hg V2 a => go (fun lv2 u0 u1 u2 u3 => (key lv2 u0 u1 u2 u3).1 hf hg V2 a), fun hf hg => go (fun lv2 u0 u1 u2 u3 => (key lv2 u0 u1 u2 u3).2.1 hf hg), fun h0 hf b W' hb a => go (fun lv2 u0 u1 u2 u3 => (key lv2 u0 u1 u2 u3).2.2 h0 hf b W' hb a)⟩
end
