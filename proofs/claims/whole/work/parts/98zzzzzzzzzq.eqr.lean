/-! DEEDS ON BOTH SIDES: equal, unequal, is -/
section
variable {P : Nat → Prop} {T : cS} {gT : Nat} {Q : Nat → Prop} {β : Nat → Nat} {F : Nat → Nat → Nat → Prop} {loc par : Nat → Nat → Nat} {ty : Nat → Nat × Nat} {G : Nat → Nat → Nat → Nat × Nat × LL → Prop} {D K : List Nat} {z nn g0 g1 g3 g4 g5 gn d d' v o t tp jc jc' jr : Nat} {ac ac' ar : List Value} {tq : Nat → Nat × Nat} {C r : List Lv} {x : Lv} {s' : Nat × Nat × LL} {Sc Sr S S' W : cS} {hi lo a b w : Int64} {kd : Int32}
/-- a deed that another calls -/
theorem opR_up (h : opR F loc par ty G tq d jc ac jr ar x r s' S) (hd : d ≤ d') (hw : ∀ rb S', Ans d jc ac S (some (.int rb)) S' → Ans d' jc' ac' S (some (.int rb)) S') : opR F loc par ty G tq d' jc' ac' jr ar x r s' S := by
  rcases h with ⟨S', h1, h2, h3, h4⟩ | ⟨e, S', he, h1, h2, h3, h4⟩
  · refine Or.inl ⟨S', hw _ _ h1, h2, h3, fun P T gT Q β D z nn g0 g1 g3 g4 g5 gn Sr hX => ?_⟩
    obtain ⟨Q', β', D', nn', h0, h1, h3, h4, h5, hn, W, w1, w2⟩ := h4 P T gT Q β D z nn g0 g1 g3 g4 g5 gn Sr hX
    exact ⟨Q', β', D', nn', h0, h1, h3, h4, h5, hn, W, w1.up hd, w2⟩
  · refine Or.inr ⟨e, S', he, hw _ _ h1, h2, h3, fun P T gT Q β D z nn g0 g1 g3 g4 g5 gn Sr hX => ?_⟩
    obtain ⟨Q', β', D', nn', h0, h1, h3, h4, h5, hn, W, w1, w2⟩ := h4 P T gT Q β D z nn g0 g1 g3 g4 g5 gn Sr hX
    exact ⟨Q', β', D', nn', h0, h1, h3, h4, h5, hn, W, w1.up hd, w2⟩
/-- a deed of the reference that another calls -/
theorem opR_ur {jr' : Nat} {ar' : List Value} (h : opR F loc par ty G tq d jc ac jr ar x r s' S) (hd : d ≤ d') (hw : ∀ b Sr W, (b = 0 ∨ b = 1) → Ans d jr ar Sr (some (.int b)) W → Ans d' jr' ar' Sr (some (.int b)) W) : opR F loc par ty G tq d' jc ac jr' ar' x r s' S := by
  rcases h with ⟨S', h1, h2, h3, h4⟩ | ⟨e, S', he, h1, h2, h3, h4⟩
  · refine Or.inl ⟨S', h1.up hd, h2, h3, fun P T gT Q β D z nn g0 g1 g3 g4 g5 gn Sr hX => ?_⟩
    obtain ⟨Q', β', D', nn', h0, h1, h3, h4, h5, hn, W, w1, w2⟩ := h4 P T gT Q β D z nn g0 g1 g3 g4 g5 gn Sr hX
    exact ⟨Q', β', D', nn', h0, h1, h3, h4, h5, hn, W, hw _ _ _ (Or.inr rfl) w1, w2⟩
  · refine Or.inr ⟨e, S', he, h1.up hd, h2, h3, fun P T gT Q β D z nn g0 g1 g3 g4 g5 gn Sr hX => ?_⟩
    obtain ⟨Q', β', D', nn', h0, h1, h3, h4, h5, hn, W, w1, w2⟩ := h4 P T gT Q β D z nn g0 g1 g3 g4 g5 gn Sr hX
    exact ⟨Q', β', D', nn', h0, h1, h3, h4, h5, hn, W, hw _ _ _ (Or.inl rfl) w1, w2⟩
/-- a deed that puts an int in the place of v values -/
theorem opR_int (w : Int64) (h : CI F loc par ty G tq (x :: r) S) (hl : lob (vL x) + v ≤ vH x) (h6 : vH x - v + 1 ≤ 600) {dg : Nat} (hc : ∀ S', Ans (dg + 9) 148 [.ref 46, .int (nI v), .long 2305843009213693952, .long w] S (some (.int (nI 0))) S' → Ans d jc ac S (some (.int (nI 0))) S') (hr : ∀ P T gT Q β D z nn g0 g1 g3 g4 g5 gn Sr, XR P T gT Q β F D z nn g0 g1 g3 g4 g5 gn tq (x :: r) S Sr → Ans d jr ar Sr (some (.int 1)) (pshW (topC (x :: r) + offC (x :: r) - v) (nI 1) w 0 Sr)) : opR F loc par ty G tq d jc ac jr ar x r (vH x - v + 1, vU x, vL x) S := by
  refine opR_give (dg := dg) (v := v) (o := 0) h hl h6 (int_o _).1 (by omega) (Or.inl rfl) (int_o w).2 hc (fun P T gT Q β D z nn g0 g1 g3 g4 g5 gn Sr hX => ?_)
  obtain ⟨l1, l2, l3, l4, l5⟩ := CI_len h
  have et : topC (x :: r) - v + offC (x :: r) = topC (x :: r) + offC (x :: r) - v := by omega
  rw [et]
  obtain ⟨p1, p2, p3, p4, p5⟩ := pshW_s (tp := topC (x :: r) + offC (x :: r) - v) (kd := nI 1) (xa := w) (xb := 0) (S := Sr)
  exact ⟨_, hr P T gT Q β D z nn g0 g1 g3 g4 g5 gn Sr hX, p1, p2, by rw [p3, p4, p5]; exact vr_mk w⟩
/-- the class: are the topmost two the same -/
theorem aeq_T (l3 : sI S 4603 = nI t) (ht : t ≤ 20480) (h2 : 2 ≤ t) : ((sL S 47 (t - 1 - 0) = sL S 47 (t - 1 - 1) ∧ sL S 48 (t - 1 - 0) = sL S 48 (t - 1 - 1)) → Ans (d + 11) 203 [.ref 53] S (some (.int 1)) S) ∧ (¬ (sL S 47 (t - 1 - 0) = sL S 47 (t - 1 - 1) ∧ sL S 48 (t - 1 - 0) = sL S 48 (t - 1 - 1)) → Ans (d + 11) 203 [.ref 53] S (some (.int 0)) S) := by
  have m := ml_203
  have go : ∀ {v : Option Value}, Bod (d + 10) 203 0 [(0, .ref 53)] [] S v S → Ans (d + 11) 203 [.ref 53] S v S := fun h => Ans.of (by rw [m]; exact Nat.le_of_ble_eq_true rfl) (Bod.lv (by rfl) h)
  have q0 := hi_ev (d := d + 8) (b := 0) l3 (by omega) ht
  have q1 := hi_ev (d := d + 8) (b := 1) l3 (by omega) ht
  have r0 := lo_ev (d := d + 8) (b := 0) l3 (by omega) ht
  have r1 := lo_ev (d := d + 8) (b := 1) l3 (by omega) ht
  by_cases c1 : sL S 47 (t - 1 - 0) = sL S 47 (t - 1 - 1)
  · by_cases c2 : sL S 48 (t - 1 - 0) = sL S 48 (t - 1 - 1)
    · exact ⟨fun _ => go (mEq_3 (d := d + 2) q0 q1 (by rw [c1]; exact lgne_F) r0 r1 (by rw [c2]; exact lgne_F)), fun c => absurd ⟨c1, c2⟩ c⟩
    · exact ⟨fun c => absurd c.2 c2, fun _ => go (mEq_2 (d := d + 2) q0 q1 (by rw [c1]; exact lgne_F) r0 r1 (lgne_T c2))⟩
  · exact ⟨fun c => absurd c.1 c1, fun _ => go (mEq_1 (d := d + 2) q0 q1 (lgne_T c1))⟩
/-- equal in the class if equal in the reference -/
theorem aeq_iff (h : CI F loc par ty G tq (x :: r) S) (hX : XR P T gT Q β F D z nn g0 g1 g3 g4 g5 gn tq (x :: r) S Sr) (h2 : 2 ≤ vH x) : (sL S 47 (topC (x :: r) - 1 - 0) = sL S 47 (topC (x :: r) - 1 - 1) ∧ sL S 48 (topC (x :: r) - 1 - 0) = sL S 48 (topC (x :: r) - 1 - 1)) ↔ rEqv Sr (topC (x :: r) + offC (x :: r) - 2) (sA Sr 91 (topC (x :: r) + offC (x :: r) - 1)) (sL Sr 92 (topC (x :: r) + offC (x :: r) - 1)) (sL Sr 93 (topC (x :: r) + offC (x :: r) - 1)) := by
  obtain ⟨l1, l2, l3, l4, l5⟩ := CI_len h
  have v0 := XR_v hX (i := 0) (by omega)
  have v1 := XR_v hX (i := 1) (by omega)
  have := vr_eq v1 v0 (CI_k h (by omega)) (CI_k h (by omega)) (fun h0 => (XR_ob h hX (by omega) h0).2) (fun h0 => (XR_ob h hX (by omega) h0).2) (fun h1 h0 e => hX.1.2.1 _ _ (XR_ob h hX (by omega) h1).1 (XR_ob h hX (by omega) h0).1 e)
  rw [show topC (x :: r) + offC (x :: r) - 1 - 0 = topC (x :: r) + offC (x :: r) - 1 by omega, show topC (x :: r) + offC (x :: r) - 1 - 1 = topC (x :: r) + offC (x :: r) - 2 by omega] at this
  unfold rEqv
  rw [← this]
  exact ⟨fun c => ⟨c.1.symm, c.2.symm⟩, fun c => ⟨c.1.symm, c.2.symm⟩⟩
theorem rEq2_T (h : CI F loc par ty G tq (x :: r) S) (hX : XR P T gT Q β F D z nn g0 g1 g3 g4 g5 gn tq (x :: r) S Sr) (h2 : 2 ≤ vH x) : ∃ e, e < 2 ^ 20 ∧ sA Sr 91 (topC (x :: r) + offC (x :: r) - 1) = nI e ∧ (rEqv Sr (topC (x :: r) + offC (x :: r) - 2) (sA Sr 91 (topC (x :: r) + offC (x :: r) - 1)) (sL Sr 92 (topC (x :: r) + offC (x :: r) - 1)) (sL Sr 93 (topC (x :: r) + offC (x :: r) - 1)) → Ans (d + 9) 402 [.ref 61, .int (nI (topC (x :: r) + offC (x :: r) - 2)), .int (nI e), .long (sL Sr 92 (topC (x :: r) + offC (x :: r) - 1)), .long (sL Sr 93 (topC (x :: r) + offC (x :: r) - 1))] Sr (some (.int 1)) Sr) ∧ (¬ rEqv Sr (topC (x :: r) + offC (x :: r) - 2) (sA Sr 91 (topC (x :: r) + offC (x :: r) - 1)) (sL Sr 92 (topC (x :: r) + offC (x :: r) - 1)) (sL Sr 93 (topC (x :: r) + offC (x :: r) - 1)) → Ans (d + 9) 402 [.ref 61, .int (nI (topC (x :: r) + offC (x :: r) - 2)), .int (nI e), .long (sL Sr 92 (topC (x :: r) + offC (x :: r) - 1)), .long (sL Sr 93 (topC (x :: r) + offC (x :: r) - 1))] Sr (some (.int 0)) Sr) := by
  obtain ⟨l1, l2, l3, l4, l5⟩ := CI_len h
  have hT := CI_T h
  obtain ⟨e0, m0, a0, _⟩ := XR_k h hX (i := 0) (by omega)
  obtain ⟨e1, m1, a1, _⟩ := XR_k h hX (i := 1) (by omega)
  rw [show topC (x :: r) + offC (x :: r) - 1 - 0 = topC (x :: r) + offC (x :: r) - 1 by omega] at a0
  rw [show topC (x :: r) + offC (x :: r) - 1 - 1 = topC (x :: r) + offC (x :: r) - 2 by omega] at a1
  rw [a0]
  exact ⟨e0, by omega, rfl, rEq_T (by omega) a1 m1 m0⟩
theorem eq_R (sg : Nat) (hs : sg = 15677 ∨ sg = 2) (h : CI F loc par ty G tq (x :: r) S) (hl : lob (vL x) + 2 ≤ vH x) : opR F loc par ty G tq (d + 13) 189 [.ref 53, .int (nI 32)] 400 [.ref 61, .int (nI 8), .int (nI sg)] x r (vH x - 2 + 1, vU x, vL x) S := by
  have m189 := ml_189
  have m401 := ml_401
  obtain ⟨l1, l2, l3, l4, l5⟩ := CI_len h
  have hT := CI_T h
  obtain ⟨q1, q0⟩ := aeq_T (d := d + 1) l3 (by omega) (by omega)
  by_cases c : sL S 47 (topC (x :: r) - 1 - 0) = sL S 47 (topC (x :: r) - 1 - 1) ∧ sL S 48 (topC (x :: r) - 1 - 0) = sL S 48 (topC (x :: r) - 1 - 1)
  · refine opR_int (dg := d + 3) (v := 2) 1 h hl (by omega) (fun S' hg => Ans.of (by rw [m189]; exact Nat.le_of_ble_eq_true rfl) (Bod.lv (by rfl) (mAc_11 (d := d + 4) (by omega) rfl (q1 c) hg))) (fun P T gT Q β D z nn g0 g1 g3 g4 g5 gn Sr hX => ?_)
    obtain ⟨e, me, he, k1, _⟩ := rEq2_T (d := d + 2) h hX (by omega)
    have k := k1 ((aeq_iff h hX (by omega)).mp c)
    rcases hs with rfl | rfl
    · exact rbin_1 (d := d + 3) (by omega) (Ans.of (by rw [m401]; exact Nat.le_of_ble_eq_true rfl) (Bod.lv (by rfl) (rBiEQ_1 (d := d + 3) (XR_51 hX) (by omega) (by omega) (by omega) he me k (XR_51 hX) (by omega) (by omega) (rpshI_T (d := d + 1) (by omega)))))
    · exact rbin_1 (d := d + 3) (by omega) (Ans.of (by rw [m401]; exact Nat.le_of_ble_eq_true rfl) (Bod.lv (by rfl) (rBiIS_1 (d := d + 3) (XR_51 hX) (by omega) (by omega) (by omega) he me k (XR_51 hX) (by omega) (by omega) (rpshI_T (d := d + 1) (by omega)))))
  · refine opR_int (dg := d + 3) (v := 2) 0 h hl (by omega) (fun S' hg => Ans.of (by rw [m189]; exact Nat.le_of_ble_eq_true rfl) (Bod.lv (by rfl) (mAc_12 (d := d + 4) (by omega) rfl (q0 c) hg))) (fun P T gT Q β D z nn g0 g1 g3 g4 g5 gn Sr hX => ?_)
    obtain ⟨e, me, he, _, k0⟩ := rEq2_T (d := d + 2) h hX (by omega)
    have k := k0 (fun c2 => c ((aeq_iff h hX (by omega)).mpr c2))
    rcases hs with rfl | rfl
    · exact rbin_1 (d := d + 3) (by omega) (Ans.of (by rw [m401]; exact Nat.le_of_ble_eq_true rfl) (Bod.lv (by rfl) (rBiEQ_2 (d := d + 3) (XR_51 hX) (by omega) (by omega) (by omega) he me k (XR_51 hX) (by omega) (by omega) (rpshI_T (d := d + 1) (by omega)))))
    · exact rbin_1 (d := d + 3) (by omega) (Ans.of (by rw [m401]; exact Nat.le_of_ble_eq_true rfl) (Bod.lv (by rfl) (rBiIS_2 (d := d + 3) (XR_51 hX) (by omega) (by omega) (by omega) he me k (XR_51 hX) (by omega) (by omega) (rpshI_T (d := d + 1) (by omega)))))
theorem ne_R (h : CI F loc par ty G tq (x :: r) S) (hl : lob (vL x) + 2 ≤ vH x) : opR F loc par ty G tq (d + 13) 189 [.ref 53, .int (nI 33)] 400 [.ref 61, .int (nI 8), .int (nI 8509)] x r (vH x - 2 + 1, vU x, vL x) S := by
  have m189 := ml_189
  have m401 := ml_401
  obtain ⟨l1, l2, l3, l4, l5⟩ := CI_len h
  have hT := CI_T h
  obtain ⟨q1, q0⟩ := aeq_T (d := d + 1) l3 (by omega) (by omega)
  by_cases c : sL S 47 (topC (x :: r) - 1 - 0) = sL S 47 (topC (x :: r) - 1 - 1) ∧ sL S 48 (topC (x :: r) - 1 - 0) = sL S 48 (topC (x :: r) - 1 - 1)
  · refine opR_int (dg := d + 3) (v := 2) 0 h hl (by omega) (fun S' hg => Ans.of (by rw [m189]; exact Nat.le_of_ble_eq_true rfl) (Bod.lv (by rfl) (mAc_13 (d := d + 4) (by omega) rfl (q1 c) hg))) (fun P T gT Q β D z nn g0 g1 g3 g4 g5 gn Sr hX => ?_)
    obtain ⟨e, me, he, k1, _⟩ := rEq2_T (d := d + 2) h hX (by omega)
    have k := k1 ((aeq_iff h hX (by omega)).mp c)
    exact rbin_1 (d := d + 3) (by omega) (Ans.of (by rw [m401]; exact Nat.le_of_ble_eq_true rfl) (Bod.lv (by rfl) (rBiNE_1 (d := d + 3) (XR_51 hX) (by omega) (by omega) (by omega) he me k (XR_51 hX) (by omega) (by omega) (rpshI_T (d := d + 1) (by omega)))))
  · refine opR_int (dg := d + 3) (v := 2) 1 h hl (by omega) (fun S' hg => Ans.of (by rw [m189]; exact Nat.le_of_ble_eq_true rfl) (Bod.lv (by rfl) (mAc_14 (d := d + 4) (by omega) rfl (q0 c) hg))) (fun P T gT Q β D z nn g0 g1 g3 g4 g5 gn Sr hX => ?_)
    obtain ⟨e, me, he, _, k0⟩ := rEq2_T (d := d + 2) h hX (by omega)
    have k := k0 (fun c2 => c ((aeq_iff h hX (by omega)).mpr c2))
    exact rbin_1 (d := d + 3) (by omega) (Ans.of (by rw [m401]; exact Nat.le_of_ble_eq_true rfl) (Bod.lv (by rfl) (rBiNE_2 (d := d + 3) (XR_51 hX) (by omega) (by omega) (by omega) he me k (XR_51 hX) (by omega) (by omega) (rpshI_T (d := d + 1) (by omega)))))
end
