/-! DEEDS ON BOTH SIDES: less, at most, more, at least -/
section
variable {P : Nat → Prop} {T : cS} {gT : Nat} {Q : Nat → Prop} {β : Nat → Nat} {F : Nat → Nat → Nat → Prop} {loc par : Nat → Nat → Nat} {ty : Nat → Nat × Nat} {G : Nat → Nat → Nat → Nat × Nat × LL → Prop} {D : List Nat} {z nn g0 g1 g3 g4 g5 gn d t k ky : Nat} {tq : Nat → Nat × Nat} {r : List Lv} {x : Lv} {S Sr S' W : cS}
/-- two ints in order: the reference -/
theorem int_O (hk : k < 20480) (hky : ky < 20480) (e91 : sA Sr 91 k = nI 1) : Ans (d + 11) 404 [.ref 61, .int (nI k), .int (nI ky)] Sr (some (.int (sg (sL Sr 92 k).toInt (sL Sr 92 ky).toInt))) Sr :=
  Ans.of (by rw [ml_404]; exact Nat.le_of_ble_eq_true rfl) (Bod.lv (by rfl) (rOo_3 (d := d + 2) (e91 := 1) (by omega) (by omega) hk e91 (by omega) rfl hky (cl_T (d := d + 1))))
/-- the order of the topmost two: both are texts -/
theorem XR_tx (h : CI F loc par ty G tq (x :: r) S) (hX : XR P T gT Q β F D z nn g0 g1 g3 g4 g5 gn tq (x :: r) S Sr) (h2 : 2 ≤ vH x) (c0 : c_kind (sL S 47 (topC (x :: r) - 1 - 0)) = nI 3) (c1 : c_kind (sL S 47 (topC (x :: r) - 1 - 1)) = nI 3) : sA Sr 91 (topC (x :: r) + offC (x :: r) - 2) = nI 2 ∧ sA Sr 91 (topC (x :: r) + offC (x :: r) - 1) = nI 2 ∧ Ans (d + 11) 404 [.ref 61, .int (nI (topC (x :: r) + offC (x :: r) - 2)), .int (nI (topC (x :: r) + offC (x :: r) - 1))] Sr (some (.int (txS (sL S 47 (topC (x :: r) - 1 - 1)) (sL S 48 (topC (x :: r) - 1 - 1)) (sL S 47 (topC (x :: r) - 1 - 0)) (sL S 48 (topC (x :: r) - 1 - 0))))) Sr := by
  obtain ⟨l1, l2, l3, l4, l5⟩ := CI_len h
  have hT := CI_T h
  have e1 : topC (x :: r) + offC (x :: r) - 1 - 1 = topC (x :: r) + offC (x :: r) - 2 := by omega
  have e0 : topC (x :: r) + offC (x :: r) - 1 - 0 = topC (x :: r) + offC (x :: r) - 1 := by omega
  obtain ⟨y0, y04, ya0, yk0⟩ := XR_k h hX (i := 0) (by omega)
  obtain ⟨y1, y14, ya1, yk1⟩ := XR_k h hX (i := 1) (by omega)
  have v0 := XR_v hX (i := 0) (by omega)
  have v1 := XR_v hX (i := 1) (by omega)
  rw [e0] at ya0 v0
  rw [e1] at ya1 v1
  have z0 : y0 = 2 := by
    rw [c0] at yk0
    have := nI_j (by omega) (by omega) yk0
    omega
  have z1 : y1 = 2 := by
    rw [c1] at yk1
    have := nI_j (by omega) (by omega) yk1
    omega
  subst z0 z1
  obtain ⟨n, f, n15, hf, p1, p2, p3, p4⟩ := vr_txt v1 ya1
  obtain ⟨n', f', n15', hf', q1, q2, q3, q4⟩ := vr_txt v0 ya0
  refine ⟨ya1, ya0, ?_⟩
  rw [p1, p2, q1, q2, tx_e n15 n15' hf hf']
  exact tx_R (by omega) (by omega) ya1 n15 n15' hf hf' p3 p4 q3 q4
/-- op 34 of the class, the sign 60 of the reference -/
theorem cmp34_R (h : CI F loc par ty G tq (x :: r) S) (hl : lob (vL x) + 2 ≤ vH x) : opR F loc par ty G tq (d + 16) 189 [.ref 53, .int (nI 34)] 400 [.ref 61, .int (nI 8), .int (nI 60)] x r (vH x - 2 + 1, vU x, vL x) S := by
  have m189 := ml_189
  have m214 := ml_214
  have m401 := ml_401
  obtain ⟨l1, l2, l3, l4, l5⟩ := CI_len h
  have hT := CI_T h
  have e1 : topC (x :: r) + offC (x :: r) - 1 - 1 = topC (x :: r) + offC (x :: r) - 2 := by omega
  have e0 : topC (x :: r) + offC (x :: r) - 1 - 0 = topC (x :: r) + offC (x :: r) - 1 := by omega
  have t2 : 2 ≤ topC (x :: r) + offC (x :: r) := by omega
  have goC : ∀ {e : Int32} {S'}, Bod (d + 14) 214 0 [(0, .ref 53), (1, .int (nI 34))] [] S (some (.int e)) S' → Ans (d + 16) 189 [.ref 53, .int (nI 34)] S (some (.int e)) S' := fun hb => Ans.of (by rw [m189]; exact Nat.le_of_ble_eq_true rfl) (Bod.lv (by rfl) (mAc_23 (d := d + 7) (op := 34) (by omega) (by omega) (by omega) (by omega) (by omega) (by omega) (by omega) (by omega) (by omega) (by omega) (by omega) (by omega) (by omega) (by omega) (by omega) (by omega) (by omega) (Ans.of (by rw [m214]; exact Nat.le_of_ble_eq_true rfl) (Bod.lv (by rfl) hb))))
  have goR : ∀ {Sr e W}, Bod (d + 14) 401 0 [(0, .ref 61), (1, .int (nI 60))] [] Sr (some (.int e)) W → Ans (d + 15) 401 [.ref 61, .int (nI 60)] Sr (some (.int e)) W := fun hb => Ans.of (by rw [m401]; exact Nat.le_of_ble_eq_true rfl) (Bod.lv (by rfl) hb)
  have w0 := lo_ev (d := d + 12) (b := 0) l3 (by omega) (by omega)
  have w1 := lo_ev (d := d + 12) (b := 1) l3 (by omega) (by omega)
  by_cases k2 : c_kind (sL S 47 (topC (x :: r) - 1 - 0)) = nI 2 ∧ c_kind (sL S 47 (topC (x :: r) - 1 - 1)) = nI 2
  · have qa := ab_1 (d := d + 3) (k := 2) (by omega) l3 (by omega) (by omega) k2.1 k2.2
    have qc := cl_T (d := d + 5) (S := S) (u := sL S 48 (topC (x :: r) - 1 - 1)) (u1 := sL S 48 (topC (x :: r) - 1 - 0))
    have hr : ∀ {P T gT Q β D z nn g0 g1 g3 g4 g5 gn Sr}, XR P T gT Q β F D z nn g0 g1 g3 g4 g5 gn tq (x :: r) S Sr → sA Sr 91 (topC (x :: r) + offC (x :: r) - 2) = nI 1 ∧ sA Sr 91 (topC (x :: r) + offC (x :: r) - 1) = nI 1 ∧ Ans (d + 14) 404 [.ref 61, .int (nI (topC (x :: r) + offC (x :: r) - 2)), .int (nI (topC (x :: r) + offC (x :: r) - 1))] Sr (some (.int (sg (sL S 48 (topC (x :: r) - 1 - 1)).toInt (sL S 48 (topC (x :: r) - 1 - 0)).toInt))) Sr := fun {P T gT Q β D z nn g0 g1 g3 g4 g5 gn Sr} hX => by
      have v0 := XR_v hX (i := 0) (by omega)
      have v1 := XR_v hX (i := 1) (by omega)
      rw [e0] at v0
      rw [e1] at v1
      have a1 := (vr_int v1).1.mp k2.2
      have a0 := (vr_int v0).1.mp k2.1
      have b1 := ((vr_int v1).2 k2.2).2
      have b0 := ((vr_int v0).2 k2.1).2
      have := int_O (d := d + 3) (Sr := Sr) (k := topC (x :: r) + offC (x :: r) - 2) (ky := topC (x :: r) + offC (x :: r) - 1) (by omega) (by omega) a1
      rw [b1, b0] at this
      exact ⟨a1, a0, this⟩
    cases hh : sm_c1 .ge (sg (sL S 48 (topC (x :: r) - 1 - 1)).toInt (sL S 48 (topC (x :: r) - 1 - 0)).toInt) true false with
    | true =>
      refine opR_int 0 (dg := d + 5) (v := 2) h hl (by omega) (fun S' hg => goC (mCm_1 (d := d + 6) (by omega) qa w1 w0 qc rfl hh hg)) (fun P T gT Q β D z nn g0 g1 g3 g4 g5 gn Sr hX => rbin_1 (d := d + 6) (by omega) (goR ?_))
      obtain ⟨a1, a0, ha⟩ := hr hX
      exact rBiLT_2 (d := d + 6) (e91 := 1) (e911 := 1) (XR_51 hX) (by omega) t2 (by omega) a1 (by omega) a0 (by omega) rfl rfl ha hh (XR_51 hX) (by omega) t2 (rpshI_T (d := d + 4) (by omega))
    | false =>
      refine opR_int 1 (dg := d + 5) (v := 2) h hl (by omega) (fun S' hg => goC (mCm_2 (d := d + 6) (by omega) qa w1 w0 qc rfl hh hg)) (fun P T gT Q β D z nn g0 g1 g3 g4 g5 gn Sr hX => rbin_1 (d := d + 6) (by omega) (goR ?_))
      obtain ⟨a1, a0, ha⟩ := hr hX
      exact rBiLT_3 (d := d + 6) (e91 := 1) (e911 := 1) (XR_51 hX) (by omega) t2 (by omega) a1 (by omega) a0 (by omega) rfl rfl ha hh (XR_51 hX) (by omega) t2 (rpshI_T (d := d + 4) (by omega))
  · have qa := ab_0 (d := d + 3) (k := 2) (by omega) l3 (by omega) (by omega) k2
    by_cases k3 : c_kind (sL S 47 (topC (x :: r) - 1 - 0)) = nI 3 ∧ c_kind (sL S 47 (topC (x :: r) - 1 - 1)) = nI 3
    · have qb := ab_1 (d := d + 3) (k := 3) (by omega) l3 (by omega) (by omega) k3.1 k3.2
      have qc := tx_C (d := d + 4) (S := S) l3 (by omega) (by omega)
      cases hh : sm_c1 .ge (txS (sL S 47 (topC (x :: r) - 1 - 1)) (sL S 48 (topC (x :: r) - 1 - 1)) (sL S 47 (topC (x :: r) - 1 - 0)) (sL S 48 (topC (x :: r) - 1 - 0))) true false with
      | true =>
        refine opR_int 0 (dg := d + 5) (v := 2) h hl (by omega) (fun S' hg => goC (mCm_9 (d := d + 6) (by omega) qa qb qc rfl hh hg)) (fun P T gT Q β D z nn g0 g1 g3 g4 g5 gn Sr hX => rbin_1 (d := d + 6) (by omega) (goR ?_))
        obtain ⟨a1, a0, ha⟩ := XR_tx (d := d + 3) h hX (by omega) k3.1 k3.2
        exact rBiLT_4 (d := d + 6) (e91 := 2) (e911 := 2) (XR_51 hX) (by omega) t2 (by omega) a1 (by omega) a0 (by omega) rfl (by omega) rfl ha hh (XR_51 hX) (by omega) t2 (rpshI_T (d := d + 4) (by omega))
      | false =>
        refine opR_int 1 (dg := d + 5) (v := 2) h hl (by omega) (fun S' hg => goC (mCm_10 (d := d + 6) (by omega) qa qb qc rfl hh hg)) (fun P T gT Q β D z nn g0 g1 g3 g4 g5 gn Sr hX => rbin_1 (d := d + 6) (by omega) (goR ?_))
        obtain ⟨a1, a0, ha⟩ := XR_tx (d := d + 3) h hX (by omega) k3.1 k3.2
        exact rBiLT_5 (d := d + 6) (e91 := 2) (e911 := 2) (XR_51 hX) (by omega) t2 (by omega) a1 (by omega) a0 (by omega) rfl (by omega) rfl ha hh (XR_51 hX) (by omega) t2 (rpshI_T (d := d + 4) (by omega))
    · have qb := ab_0 (d := d + 3) (k := 3) (by omega) l3 (by omega) (by omega) k3
      refine opR_err (e := 2) h (by omega) (goC (mCm_17 (d := d + 6) (by omega) qa qb)) (fun P T gT Q β D z nn g0 g1 g3 g4 g5 gn Sr hX => rbin_0 (d := d + 6) (by omega) (goR ?_))
      obtain ⟨y0, y04, ya0, yk0⟩ := XR_k h hX (i := 0) (by omega)
      obtain ⟨y1, y14, ya1, yk1⟩ := XR_k h hX (i := 1) (by omega)
      rw [e0] at ya0
      rw [e1] at ya1
      by_cases c : y1 = y0
      · refine rBiLT_6 (d := d + 6) (XR_51 hX) (by omega) t2 (by omega) ya1 (by omega) ya0 (by omega) c (fun c1 => k2 ⟨?_, ?_⟩) (fun c1 => k3 ⟨?_, ?_⟩) (rfail_T (d := d + 5) 2 (by omega) Sr)
        · rw [yk0, ← c, c1]
        · rw [yk1, c1]
        · rw [yk0, ← c, c1]
        · rw [yk1, c1]
      · exact rBiLT_1 (d := d + 6) (XR_51 hX) (by omega) t2 (by omega) ya1 (by omega) ya0 (by omega) c (rfail_T (d := d + 5) 2 (by omega) Sr)
/-- op 35 of the class, the sign 15421 of the reference -/
theorem cmp35_R (h : CI F loc par ty G tq (x :: r) S) (hl : lob (vL x) + 2 ≤ vH x) : opR F loc par ty G tq (d + 16) 189 [.ref 53, .int (nI 35)] 400 [.ref 61, .int (nI 8), .int (nI 15421)] x r (vH x - 2 + 1, vU x, vL x) S := by
  have m189 := ml_189
  have m214 := ml_214
  have m401 := ml_401
  obtain ⟨l1, l2, l3, l4, l5⟩ := CI_len h
  have hT := CI_T h
  have e1 : topC (x :: r) + offC (x :: r) - 1 - 1 = topC (x :: r) + offC (x :: r) - 2 := by omega
  have e0 : topC (x :: r) + offC (x :: r) - 1 - 0 = topC (x :: r) + offC (x :: r) - 1 := by omega
  have t2 : 2 ≤ topC (x :: r) + offC (x :: r) := by omega
  have goC : ∀ {e : Int32} {S'}, Bod (d + 14) 214 0 [(0, .ref 53), (1, .int (nI 35))] [] S (some (.int e)) S' → Ans (d + 16) 189 [.ref 53, .int (nI 35)] S (some (.int e)) S' := fun hb => Ans.of (by rw [m189]; exact Nat.le_of_ble_eq_true rfl) (Bod.lv (by rfl) (mAc_23 (d := d + 7) (op := 35) (by omega) (by omega) (by omega) (by omega) (by omega) (by omega) (by omega) (by omega) (by omega) (by omega) (by omega) (by omega) (by omega) (by omega) (by omega) (by omega) (by omega) (Ans.of (by rw [m214]; exact Nat.le_of_ble_eq_true rfl) (Bod.lv (by rfl) hb))))
  have goR : ∀ {Sr e W}, Bod (d + 14) 401 0 [(0, .ref 61), (1, .int (nI 15421))] [] Sr (some (.int e)) W → Ans (d + 15) 401 [.ref 61, .int (nI 15421)] Sr (some (.int e)) W := fun hb => Ans.of (by rw [m401]; exact Nat.le_of_ble_eq_true rfl) (Bod.lv (by rfl) hb)
  have w0 := lo_ev (d := d + 12) (b := 0) l3 (by omega) (by omega)
  have w1 := lo_ev (d := d + 12) (b := 1) l3 (by omega) (by omega)
  by_cases k2 : c_kind (sL S 47 (topC (x :: r) - 1 - 0)) = nI 2 ∧ c_kind (sL S 47 (topC (x :: r) - 1 - 1)) = nI 2
  · have qa := ab_1 (d := d + 3) (k := 2) (by omega) l3 (by omega) (by omega) k2.1 k2.2
    have qc := cl_T (d := d + 5) (S := S) (u := sL S 48 (topC (x :: r) - 1 - 1)) (u1 := sL S 48 (topC (x :: r) - 1 - 0))
    have hr : ∀ {P T gT Q β D z nn g0 g1 g3 g4 g5 gn Sr}, XR P T gT Q β F D z nn g0 g1 g3 g4 g5 gn tq (x :: r) S Sr → sA Sr 91 (topC (x :: r) + offC (x :: r) - 2) = nI 1 ∧ sA Sr 91 (topC (x :: r) + offC (x :: r) - 1) = nI 1 ∧ Ans (d + 14) 404 [.ref 61, .int (nI (topC (x :: r) + offC (x :: r) - 2)), .int (nI (topC (x :: r) + offC (x :: r) - 1))] Sr (some (.int (sg (sL S 48 (topC (x :: r) - 1 - 1)).toInt (sL S 48 (topC (x :: r) - 1 - 0)).toInt))) Sr := fun {P T gT Q β D z nn g0 g1 g3 g4 g5 gn Sr} hX => by
      have v0 := XR_v hX (i := 0) (by omega)
      have v1 := XR_v hX (i := 1) (by omega)
      rw [e0] at v0
      rw [e1] at v1
      have a1 := (vr_int v1).1.mp k2.2
      have a0 := (vr_int v0).1.mp k2.1
      have b1 := ((vr_int v1).2 k2.2).2
      have b0 := ((vr_int v0).2 k2.1).2
      have := int_O (d := d + 3) (Sr := Sr) (k := topC (x :: r) + offC (x :: r) - 2) (ky := topC (x :: r) + offC (x :: r) - 1) (by omega) (by omega) a1
      rw [b1, b0] at this
      exact ⟨a1, a0, this⟩
    cases hh : sm_c1 .gt (sg (sL S 48 (topC (x :: r) - 1 - 1)).toInt (sL S 48 (topC (x :: r) - 1 - 0)).toInt) true false with
    | true =>
      refine opR_int 0 (dg := d + 5) (v := 2) h hl (by omega) (fun S' hg => goC (mCm_3 (d := d + 6) (by omega) qa w1 w0 qc rfl hh hg)) (fun P T gT Q β D z nn g0 g1 g3 g4 g5 gn Sr hX => rbin_1 (d := d + 6) (by omega) (goR ?_))
      obtain ⟨a1, a0, ha⟩ := hr hX
      exact rBiLE_2 (d := d + 6) (e91 := 1) (e911 := 1) (XR_51 hX) (by omega) t2 (by omega) a1 (by omega) a0 (by omega) rfl rfl ha hh (XR_51 hX) (by omega) t2 (rpshI_T (d := d + 4) (by omega))
    | false =>
      refine opR_int 1 (dg := d + 5) (v := 2) h hl (by omega) (fun S' hg => goC (mCm_4 (d := d + 6) (by omega) qa w1 w0 qc rfl hh hg)) (fun P T gT Q β D z nn g0 g1 g3 g4 g5 gn Sr hX => rbin_1 (d := d + 6) (by omega) (goR ?_))
      obtain ⟨a1, a0, ha⟩ := hr hX
      exact rBiLE_3 (d := d + 6) (e91 := 1) (e911 := 1) (XR_51 hX) (by omega) t2 (by omega) a1 (by omega) a0 (by omega) rfl rfl ha hh (XR_51 hX) (by omega) t2 (rpshI_T (d := d + 4) (by omega))
  · have qa := ab_0 (d := d + 3) (k := 2) (by omega) l3 (by omega) (by omega) k2
    by_cases k3 : c_kind (sL S 47 (topC (x :: r) - 1 - 0)) = nI 3 ∧ c_kind (sL S 47 (topC (x :: r) - 1 - 1)) = nI 3
    · have qb := ab_1 (d := d + 3) (k := 3) (by omega) l3 (by omega) (by omega) k3.1 k3.2
      have qc := tx_C (d := d + 4) (S := S) l3 (by omega) (by omega)
      cases hh : sm_c1 .gt (txS (sL S 47 (topC (x :: r) - 1 - 1)) (sL S 48 (topC (x :: r) - 1 - 1)) (sL S 47 (topC (x :: r) - 1 - 0)) (sL S 48 (topC (x :: r) - 1 - 0))) true false with
      | true =>
        refine opR_int 0 (dg := d + 5) (v := 2) h hl (by omega) (fun S' hg => goC (mCm_11 (d := d + 6) (by omega) qa qb qc rfl hh hg)) (fun P T gT Q β D z nn g0 g1 g3 g4 g5 gn Sr hX => rbin_1 (d := d + 6) (by omega) (goR ?_))
        obtain ⟨a1, a0, ha⟩ := XR_tx (d := d + 3) h hX (by omega) k3.1 k3.2
        exact rBiLE_4 (d := d + 6) (e91 := 2) (e911 := 2) (XR_51 hX) (by omega) t2 (by omega) a1 (by omega) a0 (by omega) rfl (by omega) rfl ha hh (XR_51 hX) (by omega) t2 (rpshI_T (d := d + 4) (by omega))
      | false =>
        refine opR_int 1 (dg := d + 5) (v := 2) h hl (by omega) (fun S' hg => goC (mCm_12 (d := d + 6) (by omega) qa qb qc rfl hh hg)) (fun P T gT Q β D z nn g0 g1 g3 g4 g5 gn Sr hX => rbin_1 (d := d + 6) (by omega) (goR ?_))
        obtain ⟨a1, a0, ha⟩ := XR_tx (d := d + 3) h hX (by omega) k3.1 k3.2
        exact rBiLE_5 (d := d + 6) (e91 := 2) (e911 := 2) (XR_51 hX) (by omega) t2 (by omega) a1 (by omega) a0 (by omega) rfl (by omega) rfl ha hh (XR_51 hX) (by omega) t2 (rpshI_T (d := d + 4) (by omega))
    · have qb := ab_0 (d := d + 3) (k := 3) (by omega) l3 (by omega) (by omega) k3
      refine opR_err (e := 2) h (by omega) (goC (mCm_17 (d := d + 6) (by omega) qa qb)) (fun P T gT Q β D z nn g0 g1 g3 g4 g5 gn Sr hX => rbin_0 (d := d + 6) (by omega) (goR ?_))
      obtain ⟨y0, y04, ya0, yk0⟩ := XR_k h hX (i := 0) (by omega)
      obtain ⟨y1, y14, ya1, yk1⟩ := XR_k h hX (i := 1) (by omega)
      rw [e0] at ya0
      rw [e1] at ya1
      by_cases c : y1 = y0
      · refine rBiLE_6 (d := d + 6) (XR_51 hX) (by omega) t2 (by omega) ya1 (by omega) ya0 (by omega) c (fun c1 => k2 ⟨?_, ?_⟩) (fun c1 => k3 ⟨?_, ?_⟩) (rfail_T (d := d + 5) 2 (by omega) Sr)
        · rw [yk0, ← c, c1]
        · rw [yk1, c1]
        · rw [yk0, ← c, c1]
        · rw [yk1, c1]
      · exact rBiLE_1 (d := d + 6) (XR_51 hX) (by omega) t2 (by omega) ya1 (by omega) ya0 (by omega) c (rfail_T (d := d + 5) 2 (by omega) Sr)
/-- op 36 of the class, the sign 62 of the reference -/
theorem cmp36_R (h : CI F loc par ty G tq (x :: r) S) (hl : lob (vL x) + 2 ≤ vH x) : opR F loc par ty G tq (d + 16) 189 [.ref 53, .int (nI 36)] 400 [.ref 61, .int (nI 8), .int (nI 62)] x r (vH x - 2 + 1, vU x, vL x) S := by
  have m189 := ml_189
  have m214 := ml_214
  have m401 := ml_401
  obtain ⟨l1, l2, l3, l4, l5⟩ := CI_len h
  have hT := CI_T h
  have e1 : topC (x :: r) + offC (x :: r) - 1 - 1 = topC (x :: r) + offC (x :: r) - 2 := by omega
  have e0 : topC (x :: r) + offC (x :: r) - 1 - 0 = topC (x :: r) + offC (x :: r) - 1 := by omega
  have t2 : 2 ≤ topC (x :: r) + offC (x :: r) := by omega
  have goC : ∀ {e : Int32} {S'}, Bod (d + 14) 214 0 [(0, .ref 53), (1, .int (nI 36))] [] S (some (.int e)) S' → Ans (d + 16) 189 [.ref 53, .int (nI 36)] S (some (.int e)) S' := fun hb => Ans.of (by rw [m189]; exact Nat.le_of_ble_eq_true rfl) (Bod.lv (by rfl) (mAc_23 (d := d + 7) (op := 36) (by omega) (by omega) (by omega) (by omega) (by omega) (by omega) (by omega) (by omega) (by omega) (by omega) (by omega) (by omega) (by omega) (by omega) (by omega) (by omega) (by omega) (Ans.of (by rw [m214]; exact Nat.le_of_ble_eq_true rfl) (Bod.lv (by rfl) hb))))
  have goR : ∀ {Sr e W}, Bod (d + 14) 401 0 [(0, .ref 61), (1, .int (nI 62))] [] Sr (some (.int e)) W → Ans (d + 15) 401 [.ref 61, .int (nI 62)] Sr (some (.int e)) W := fun hb => Ans.of (by rw [m401]; exact Nat.le_of_ble_eq_true rfl) (Bod.lv (by rfl) hb)
  have w0 := lo_ev (d := d + 12) (b := 0) l3 (by omega) (by omega)
  have w1 := lo_ev (d := d + 12) (b := 1) l3 (by omega) (by omega)
  by_cases k2 : c_kind (sL S 47 (topC (x :: r) - 1 - 0)) = nI 2 ∧ c_kind (sL S 47 (topC (x :: r) - 1 - 1)) = nI 2
  · have qa := ab_1 (d := d + 3) (k := 2) (by omega) l3 (by omega) (by omega) k2.1 k2.2
    have qc := cl_T (d := d + 5) (S := S) (u := sL S 48 (topC (x :: r) - 1 - 1)) (u1 := sL S 48 (topC (x :: r) - 1 - 0))
    have hr : ∀ {P T gT Q β D z nn g0 g1 g3 g4 g5 gn Sr}, XR P T gT Q β F D z nn g0 g1 g3 g4 g5 gn tq (x :: r) S Sr → sA Sr 91 (topC (x :: r) + offC (x :: r) - 2) = nI 1 ∧ sA Sr 91 (topC (x :: r) + offC (x :: r) - 1) = nI 1 ∧ Ans (d + 14) 404 [.ref 61, .int (nI (topC (x :: r) + offC (x :: r) - 2)), .int (nI (topC (x :: r) + offC (x :: r) - 1))] Sr (some (.int (sg (sL S 48 (topC (x :: r) - 1 - 1)).toInt (sL S 48 (topC (x :: r) - 1 - 0)).toInt))) Sr := fun {P T gT Q β D z nn g0 g1 g3 g4 g5 gn Sr} hX => by
      have v0 := XR_v hX (i := 0) (by omega)
      have v1 := XR_v hX (i := 1) (by omega)
      rw [e0] at v0
      rw [e1] at v1
      have a1 := (vr_int v1).1.mp k2.2
      have a0 := (vr_int v0).1.mp k2.1
      have b1 := ((vr_int v1).2 k2.2).2
      have b0 := ((vr_int v0).2 k2.1).2
      have := int_O (d := d + 3) (Sr := Sr) (k := topC (x :: r) + offC (x :: r) - 2) (ky := topC (x :: r) + offC (x :: r) - 1) (by omega) (by omega) a1
      rw [b1, b0] at this
      exact ⟨a1, a0, this⟩
    cases hh : sm_c1 .le (sg (sL S 48 (topC (x :: r) - 1 - 1)).toInt (sL S 48 (topC (x :: r) - 1 - 0)).toInt) true false with
    | true =>
      refine opR_int 0 (dg := d + 5) (v := 2) h hl (by omega) (fun S' hg => goC (mCm_5 (d := d + 6) (by omega) qa w1 w0 qc rfl hh hg)) (fun P T gT Q β D z nn g0 g1 g3 g4 g5 gn Sr hX => rbin_1 (d := d + 6) (by omega) (goR ?_))
      obtain ⟨a1, a0, ha⟩ := hr hX
      exact rBiGT_2 (d := d + 6) (e91 := 1) (e911 := 1) (XR_51 hX) (by omega) t2 (by omega) a1 (by omega) a0 (by omega) rfl rfl ha hh (XR_51 hX) (by omega) t2 (rpshI_T (d := d + 4) (by omega))
    | false =>
      refine opR_int 1 (dg := d + 5) (v := 2) h hl (by omega) (fun S' hg => goC (mCm_6 (d := d + 6) (by omega) qa w1 w0 qc rfl hh hg)) (fun P T gT Q β D z nn g0 g1 g3 g4 g5 gn Sr hX => rbin_1 (d := d + 6) (by omega) (goR ?_))
      obtain ⟨a1, a0, ha⟩ := hr hX
      exact rBiGT_3 (d := d + 6) (e91 := 1) (e911 := 1) (XR_51 hX) (by omega) t2 (by omega) a1 (by omega) a0 (by omega) rfl rfl ha hh (XR_51 hX) (by omega) t2 (rpshI_T (d := d + 4) (by omega))
  · have qa := ab_0 (d := d + 3) (k := 2) (by omega) l3 (by omega) (by omega) k2
    by_cases k3 : c_kind (sL S 47 (topC (x :: r) - 1 - 0)) = nI 3 ∧ c_kind (sL S 47 (topC (x :: r) - 1 - 1)) = nI 3
    · have qb := ab_1 (d := d + 3) (k := 3) (by omega) l3 (by omega) (by omega) k3.1 k3.2
      have qc := tx_C (d := d + 4) (S := S) l3 (by omega) (by omega)
      cases hh : sm_c1 .le (txS (sL S 47 (topC (x :: r) - 1 - 1)) (sL S 48 (topC (x :: r) - 1 - 1)) (sL S 47 (topC (x :: r) - 1 - 0)) (sL S 48 (topC (x :: r) - 1 - 0))) true false with
      | true =>
        refine opR_int 0 (dg := d + 5) (v := 2) h hl (by omega) (fun S' hg => goC (mCm_13 (d := d + 6) (by omega) qa qb qc rfl hh hg)) (fun P T gT Q β D z nn g0 g1 g3 g4 g5 gn Sr hX => rbin_1 (d := d + 6) (by omega) (goR ?_))
        obtain ⟨a1, a0, ha⟩ := XR_tx (d := d + 3) h hX (by omega) k3.1 k3.2
        exact rBiGT_4 (d := d + 6) (e91 := 2) (e911 := 2) (XR_51 hX) (by omega) t2 (by omega) a1 (by omega) a0 (by omega) rfl (by omega) rfl ha hh (XR_51 hX) (by omega) t2 (rpshI_T (d := d + 4) (by omega))
      | false =>
        refine opR_int 1 (dg := d + 5) (v := 2) h hl (by omega) (fun S' hg => goC (mCm_14 (d := d + 6) (by omega) qa qb qc rfl hh hg)) (fun P T gT Q β D z nn g0 g1 g3 g4 g5 gn Sr hX => rbin_1 (d := d + 6) (by omega) (goR ?_))
        obtain ⟨a1, a0, ha⟩ := XR_tx (d := d + 3) h hX (by omega) k3.1 k3.2
        exact rBiGT_5 (d := d + 6) (e91 := 2) (e911 := 2) (XR_51 hX) (by omega) t2 (by omega) a1 (by omega) a0 (by omega) rfl (by omega) rfl ha hh (XR_51 hX) (by omega) t2 (rpshI_T (d := d + 4) (by omega))
    · have qb := ab_0 (d := d + 3) (k := 3) (by omega) l3 (by omega) (by omega) k3
      refine opR_err (e := 2) h (by omega) (goC (mCm_17 (d := d + 6) (by omega) qa qb)) (fun P T gT Q β D z nn g0 g1 g3 g4 g5 gn Sr hX => rbin_0 (d := d + 6) (by omega) (goR ?_))
      obtain ⟨y0, y04, ya0, yk0⟩ := XR_k h hX (i := 0) (by omega)
      obtain ⟨y1, y14, ya1, yk1⟩ := XR_k h hX (i := 1) (by omega)
      rw [e0] at ya0
      rw [e1] at ya1
      by_cases c : y1 = y0
      · refine rBiGT_6 (d := d + 6) (XR_51 hX) (by omega) t2 (by omega) ya1 (by omega) ya0 (by omega) c (fun c1 => k2 ⟨?_, ?_⟩) (fun c1 => k3 ⟨?_, ?_⟩) (rfail_T (d := d + 5) 2 (by omega) Sr)
        · rw [yk0, ← c, c1]
        · rw [yk1, c1]
        · rw [yk0, ← c, c1]
        · rw [yk1, c1]
      · exact rBiGT_1 (d := d + 6) (XR_51 hX) (by omega) t2 (by omega) ya1 (by omega) ya0 (by omega) c (rfail_T (d := d + 5) 2 (by omega) Sr)
/-- op 37 of the class, the sign 15933 of the reference -/
theorem cmp37_R (h : CI F loc par ty G tq (x :: r) S) (hl : lob (vL x) + 2 ≤ vH x) : opR F loc par ty G tq (d + 16) 189 [.ref 53, .int (nI 37)] 400 [.ref 61, .int (nI 8), .int (nI 15933)] x r (vH x - 2 + 1, vU x, vL x) S := by
  have m189 := ml_189
  have m214 := ml_214
  have m401 := ml_401
  obtain ⟨l1, l2, l3, l4, l5⟩ := CI_len h
  have hT := CI_T h
  have e1 : topC (x :: r) + offC (x :: r) - 1 - 1 = topC (x :: r) + offC (x :: r) - 2 := by omega
  have e0 : topC (x :: r) + offC (x :: r) - 1 - 0 = topC (x :: r) + offC (x :: r) - 1 := by omega
  have t2 : 2 ≤ topC (x :: r) + offC (x :: r) := by omega
  have goC : ∀ {e : Int32} {S'}, Bod (d + 14) 214 0 [(0, .ref 53), (1, .int (nI 37))] [] S (some (.int e)) S' → Ans (d + 16) 189 [.ref 53, .int (nI 37)] S (some (.int e)) S' := fun hb => Ans.of (by rw [m189]; exact Nat.le_of_ble_eq_true rfl) (Bod.lv (by rfl) (mAc_23 (d := d + 7) (op := 37) (by omega) (by omega) (by omega) (by omega) (by omega) (by omega) (by omega) (by omega) (by omega) (by omega) (by omega) (by omega) (by omega) (by omega) (by omega) (by omega) (by omega) (Ans.of (by rw [m214]; exact Nat.le_of_ble_eq_true rfl) (Bod.lv (by rfl) hb))))
  have goR : ∀ {Sr e W}, Bod (d + 14) 401 0 [(0, .ref 61), (1, .int (nI 15933))] [] Sr (some (.int e)) W → Ans (d + 15) 401 [.ref 61, .int (nI 15933)] Sr (some (.int e)) W := fun hb => Ans.of (by rw [m401]; exact Nat.le_of_ble_eq_true rfl) (Bod.lv (by rfl) hb)
  have w0 := lo_ev (d := d + 12) (b := 0) l3 (by omega) (by omega)
  have w1 := lo_ev (d := d + 12) (b := 1) l3 (by omega) (by omega)
  by_cases k2 : c_kind (sL S 47 (topC (x :: r) - 1 - 0)) = nI 2 ∧ c_kind (sL S 47 (topC (x :: r) - 1 - 1)) = nI 2
  · have qa := ab_1 (d := d + 3) (k := 2) (by omega) l3 (by omega) (by omega) k2.1 k2.2
    have qc := cl_T (d := d + 5) (S := S) (u := sL S 48 (topC (x :: r) - 1 - 1)) (u1 := sL S 48 (topC (x :: r) - 1 - 0))
    have hr : ∀ {P T gT Q β D z nn g0 g1 g3 g4 g5 gn Sr}, XR P T gT Q β F D z nn g0 g1 g3 g4 g5 gn tq (x :: r) S Sr → sA Sr 91 (topC (x :: r) + offC (x :: r) - 2) = nI 1 ∧ sA Sr 91 (topC (x :: r) + offC (x :: r) - 1) = nI 1 ∧ Ans (d + 14) 404 [.ref 61, .int (nI (topC (x :: r) + offC (x :: r) - 2)), .int (nI (topC (x :: r) + offC (x :: r) - 1))] Sr (some (.int (sg (sL S 48 (topC (x :: r) - 1 - 1)).toInt (sL S 48 (topC (x :: r) - 1 - 0)).toInt))) Sr := fun {P T gT Q β D z nn g0 g1 g3 g4 g5 gn Sr} hX => by
      have v0 := XR_v hX (i := 0) (by omega)
      have v1 := XR_v hX (i := 1) (by omega)
      rw [e0] at v0
      rw [e1] at v1
      have a1 := (vr_int v1).1.mp k2.2
      have a0 := (vr_int v0).1.mp k2.1
      have b1 := ((vr_int v1).2 k2.2).2
      have b0 := ((vr_int v0).2 k2.1).2
      have := int_O (d := d + 3) (Sr := Sr) (k := topC (x :: r) + offC (x :: r) - 2) (ky := topC (x :: r) + offC (x :: r) - 1) (by omega) (by omega) a1
      rw [b1, b0] at this
      exact ⟨a1, a0, this⟩
    cases hh : sm_c1 .lt (sg (sL S 48 (topC (x :: r) - 1 - 1)).toInt (sL S 48 (topC (x :: r) - 1 - 0)).toInt) true false with
    | true =>
      refine opR_int 0 (dg := d + 5) (v := 2) h hl (by omega) (fun S' hg => goC (mCm_7 (d := d + 6) (by omega) qa w1 w0 qc (by omega) (by omega) (by omega) (by omega) hh hg)) (fun P T gT Q β D z nn g0 g1 g3 g4 g5 gn Sr hX => rbin_1 (d := d + 6) (by omega) (goR ?_))
      obtain ⟨a1, a0, ha⟩ := hr hX
      exact rBiGE_2 (d := d + 6) (e91 := 1) (e911 := 1) (XR_51 hX) (by omega) t2 (by omega) a1 (by omega) a0 (by omega) rfl rfl ha hh (XR_51 hX) (by omega) t2 (rpshI_T (d := d + 4) (by omega))
    | false =>
      refine opR_int 1 (dg := d + 5) (v := 2) h hl (by omega) (fun S' hg => goC (mCm_8 (d := d + 6) (by omega) qa w1 w0 qc (by omega) (by omega) (by omega) (by omega) hh hg)) (fun P T gT Q β D z nn g0 g1 g3 g4 g5 gn Sr hX => rbin_1 (d := d + 6) (by omega) (goR ?_))
      obtain ⟨a1, a0, ha⟩ := hr hX
      exact rBiGE_3 (d := d + 6) (e91 := 1) (e911 := 1) (XR_51 hX) (by omega) t2 (by omega) a1 (by omega) a0 (by omega) rfl rfl ha hh (XR_51 hX) (by omega) t2 (rpshI_T (d := d + 4) (by omega))
  · have qa := ab_0 (d := d + 3) (k := 2) (by omega) l3 (by omega) (by omega) k2
    by_cases k3 : c_kind (sL S 47 (topC (x :: r) - 1 - 0)) = nI 3 ∧ c_kind (sL S 47 (topC (x :: r) - 1 - 1)) = nI 3
    · have qb := ab_1 (d := d + 3) (k := 3) (by omega) l3 (by omega) (by omega) k3.1 k3.2
      have qc := tx_C (d := d + 4) (S := S) l3 (by omega) (by omega)
      cases hh : sm_c1 .lt (txS (sL S 47 (topC (x :: r) - 1 - 1)) (sL S 48 (topC (x :: r) - 1 - 1)) (sL S 47 (topC (x :: r) - 1 - 0)) (sL S 48 (topC (x :: r) - 1 - 0))) true false with
      | true =>
        refine opR_int 0 (dg := d + 5) (v := 2) h hl (by omega) (fun S' hg => goC (mCm_15 (d := d + 6) (by omega) qa qb qc (by omega) (by omega) (by omega) (by omega) hh hg)) (fun P T gT Q β D z nn g0 g1 g3 g4 g5 gn Sr hX => rbin_1 (d := d + 6) (by omega) (goR ?_))
        obtain ⟨a1, a0, ha⟩ := XR_tx (d := d + 3) h hX (by omega) k3.1 k3.2
        exact rBiGE_4 (d := d + 6) (e91 := 2) (e911 := 2) (XR_51 hX) (by omega) t2 (by omega) a1 (by omega) a0 (by omega) rfl (by omega) rfl ha hh (XR_51 hX) (by omega) t2 (rpshI_T (d := d + 4) (by omega))
      | false =>
        refine opR_int 1 (dg := d + 5) (v := 2) h hl (by omega) (fun S' hg => goC (mCm_16 (d := d + 6) (by omega) qa qb qc (by omega) (by omega) (by omega) (by omega) hh hg)) (fun P T gT Q β D z nn g0 g1 g3 g4 g5 gn Sr hX => rbin_1 (d := d + 6) (by omega) (goR ?_))
        obtain ⟨a1, a0, ha⟩ := XR_tx (d := d + 3) h hX (by omega) k3.1 k3.2
        exact rBiGE_5 (d := d + 6) (e91 := 2) (e911 := 2) (XR_51 hX) (by omega) t2 (by omega) a1 (by omega) a0 (by omega) rfl (by omega) rfl ha hh (XR_51 hX) (by omega) t2 (rpshI_T (d := d + 4) (by omega))
    · have qb := ab_0 (d := d + 3) (k := 3) (by omega) l3 (by omega) (by omega) k3
      refine opR_err (e := 2) h (by omega) (goC (mCm_17 (d := d + 6) (by omega) qa qb)) (fun P T gT Q β D z nn g0 g1 g3 g4 g5 gn Sr hX => rbin_0 (d := d + 6) (by omega) (goR ?_))
      obtain ⟨y0, y04, ya0, yk0⟩ := XR_k h hX (i := 0) (by omega)
      obtain ⟨y1, y14, ya1, yk1⟩ := XR_k h hX (i := 1) (by omega)
      rw [e0] at ya0
      rw [e1] at ya1
      by_cases c : y1 = y0
      · refine rBiGE_6 (d := d + 6) (XR_51 hX) (by omega) t2 (by omega) ya1 (by omega) ya0 (by omega) c (fun c1 => k2 ⟨?_, ?_⟩) (fun c1 => k3 ⟨?_, ?_⟩) (rfail_T (d := d + 5) 2 (by omega) Sr)
        · rw [yk0, ← c, c1]
        · rw [yk1, c1]
        · rw [yk0, ← c, c1]
        · rw [yk1, c1]
      · exact rBiGE_1 (d := d + 6) (XR_51 hX) (by omega) t2 (by omega) ya1 (by omega) ya0 (by omega) c (rfail_T (d := d + 5) 2 (by omega) Sr)
end
