/-! DEEDS ON BOTH SIDES: an entry is put behind the others -/
section
variable {P : Nat → Prop} {T : cS} {gT : Nat} {Q : Nat → Prop} {β : Nat → Nat} {F : Nat → Nat → Nat → Prop} {loc par : Nat → Nat → Nat} {ty : Nat → Nat × Nat} {G : Nat → Nat → Nat → Nat × Nat × LL → Prop} {D D' K : List Nat} {z nn g0 g1 g3 g4 g5 gn d v o t k e n m v2 v3 v4 v5 v6 v7 w2 w3 w4 w5 w6 w7 : Nat} {tq : Nat → Nat × Nat} {C r : List Lv} {x : Lv} {g : Nat → Nat} {Sc Sr S S' X W W0 : cS} {hi lo a b kh kl : Int64} {kd : Int32}
/-- append and v values off: the class -/
theorem app_C (h : CI F loc par ty G tq (x :: r) S) (hl : lob (vL x) + v ≤ vH x) (hk : lv S k) (hw : c_width (h_kd S k) = 2 ∨ c_width (h_kd S k) = 4) (hk7 : h_kd S k ≠ 7) (ho : c_obj hi lo = nI o) (hol : o = 0 ∨ lv S o) (h0 : c_kind hi ≠ 0 ∧ c_kind hi ≠ nI 5) (hkk : h_kd S k = 2 → c_kind kh = nI 2 ∨ c_kind kh = nI 3) : (h_n S k = c_most (h_kd S k) ∧ Ans (d + 4) 183 [.ref 2, .int (nI k), .long kh, .long kl, .long hi, .long lo] S (some (.int (nI 0))) S) ∨ (h_n S k < c_most (h_kd S k) ∧ ∃ W S' D, Ans (d + 4) 183 [.ref 2, .int (nI k), .long kh, .long kl, .long hi, .long lo] S (some (.int (nI 1))) W ∧ Ans (d + 9) 141 [.ref 46, .int (nI v)] W none S' ∧ mtX k D S W S' ∧ (∀ p q, CI F loc par ty G tq (vAt x p q (vH x - v, vU x, vL x) :: r) S') ∧ (∀ i, i < topC (x :: r) - v → sL S' 47 i = sL S 47 i ∧ sL S' 48 i = sL S 48 i) ∧ h_n W k = h_n S k + 1 ∧ h_kd W k = h_kd S k ∧ (∀ i, i < h_n S k → h_hi W k i = h_hi S k i ∧ h_lo W k i = h_lo S k i) ∧ h_hi W k (h_n S k) = hi ∧ h_lo W k (h_n S k) = lo ∧ (c_width (h_kd S k) = 4 → (∀ i, i < h_n S k → h_kh W k i = h_kh S k i ∧ h_kl W k i = h_kl S k i) ∧ h_kh W k (h_n S k) = kh ∧ h_kl W k (h_n S k) = kl)) := by
  obtain ⟨l1, l2, l3, l4, l5⟩ := CI_len h
  have hok := mHS_ok h.1 k hk.1 hk.2.1
  obtain ⟨kd, z, k7, z3, k3, k10, ekd, ez, hw0⟩ := kdz hok
  rw [ekd] at hw hk7 hkk ⊢
  have hn : h_n S k = z := by
    unfold h_n
    rw [ez, ekd, if_neg (by omega)]
  rw [hn]
  have hzm : z ≤ c_most kd := by
    obtain ⟨kd', z', _, _, _, m2, m3, _, _, _, _, m8, _⟩ := hok
    have ek : kd' = kd := nI_j (by omega) (by omega) (m2.symm.trans k3)
    have := c_most_le kd'
    have ez : z' = z := nI_j (by omega) (by omega) (m3.symm.trans k10)
    rw [← ek, ← ez]
    exact m8
  rcases mappend_T (d := d) (kh := kh) (kl := kl) h.1 h.2.1 hk k3 k7 rfl hw k10 hzm ho hol with ⟨c, A⟩ | ⟨c, W, A1, b1, b2, b3, b4, b5, b6, b7, b8, b9, b10, b11⟩
  · exact Or.inl ⟨c, A⟩
  · refine Or.inr ⟨c, ?_⟩
    obtain ⟨S', K, A2, m1, m2, m3, m4⟩ := mpop_T (d := d) (v := v) b1 (by omega)
    obtain ⟨p1, p2, p3⟩ := b6
    have x3 : sA W 3 = sA S 3 := p2 3 (by decide) (by decide)
    have hM : mtX k K S W S' := ⟨m2, b3.trans (CFm_KX m2), b4, mHS_cl b1, mHS_ok b1, fun q => by unfold lv; rw [x3], p3, x3, p2 7 (by decide) (by decide), p2 8 (by decide) (by decide), p2 9 (by decide) (by decide)⟩
    have eX : h_kd W k = kd := by unfold h_kd; rw [x3, k3, gN_nI (by omega)]
    have hnX : h_n W k = z + 1 := by
      unfold h_n h_z
      rw [eX, b7, if_neg (by omega), gN_nI (by omega)]
    have ev : ∀ i, i < z → h_hi W k i = h_hi S k i ∧ h_lo W k i = h_lo S k i := fun i hi' => by
      unfold h_hi h_lo
      rw [eX, ekd]
      unfold h_at
      rcases hw with cw | cw
      · rw [cw] at b8 ⊢
        exact ⟨b8 _ (by omega), b8 _ (by omega)⟩
      · rw [cw] at b8 ⊢
        exact ⟨b8 _ (by omega), b8 _ (by omega)⟩
    have ev2 : h_hi W k z = hi ∧ h_lo W k z = lo := by
      unfold h_hi h_lo
      rw [eX]
      exact ⟨b9, b10⟩
    have ekk : c_width kd = 4 → (∀ i, i < z → h_kh W k i = h_kh S k i ∧ h_kl W k i = h_kl S k i) ∧ h_kh W k z = kh ∧ h_kl W k z = kl := fun hw4 => by
      unfold h_kh h_kl
      rw [hw4] at b8
      exact ⟨fun i hi' => ⟨b8 _ (by omega), b8 _ (by omega)⟩, b11 hw4⟩
    have hst : ∀ i, i < topC (x :: r) - v → sL S' 47 i = sL S 47 i ∧ sL S' 48 i = sL S 48 i := fun i _ => by
      rw [m3, p3 47 (by omega), p3 48 (by omega)]
      exact ⟨rfl, rfl⟩
    refine ⟨W, S', K, A1, A2, hM, fun p q => ?_, hst, hnX, eX, ev, ev2.1, ev2.2, ekk⟩
    refine CI_mut h hM m1 (rwL_KX b2 m2) (fun c => ?_) (fun _ => ⟨fun i hi' => ?_, fun c2' i hi' => ?_⟩) hst hl p q
    · rw [k3] at c
      exact absurd (nI_j (by omega) (by omega) c) (by omega)
    · obtain ⟨y1, y2⟩ := (h.2.2.2.1 k hk).2
      rw [hn] at y1
      rw [hnX] at hi'
      rw [x3]
      by_cases ci : i = z
      · rw [ci, ev2.1]
        exact ⟨h0.2, fun _ => h0.1⟩
      · rw [(ev i (by omega)).1]
        exact y1 i (by omega)
    · obtain ⟨y1, y2⟩ := (h.2.2.2.1 k hk).2
      rw [hn] at y2
      rw [hnX] at hi'
      rw [x3] at c2'
      have e2 : kd = 2 := nI_j (by omega) (by omega) (k3.symm.trans c2')
      obtain ⟨q1, q2, q3⟩ := ekk (by rw [e2]; rfl)
      by_cases ci : i = z
      · rw [ci, q2]
        exact hkk e2
      · rw [(q1 i (by omega)).1]
        exact y2 c2' i (by omega)
/-- an entry behind the others, with its key: the reference -/
theorem addk_R {kk : Int32} {ka kb : Int64} (hw : tRef Sr o t v2 v3 v4 v5 v6 v7 n m) (hd : dsV v2 v3 v4 v5 v6 v7) (hl : tLn n m) (hj : ∀ j, j < m → ∃ e, e < 2 ^ 20 ∧ sA Sr v3 j = nI e) (hz : sI Sr (100 * t + 1) = nI z) (hzn : z ≤ n) (hzm : z ≤ m) (h100 : z < 104) (hkk : ∃ e, e < 2 ^ 20 ∧ kk = nI e) : ∃ S4 S5 w2 w3 w4 w5 w6 w7 n' m', Ans (d + 10) 375 [.ref t, .int (nI 0), .long 0, .long 0] Sr none S4 ∧ Ans (d + 10) 377 [.ref t, .int (nI z), .int kk, .long ka, .long kb] S4 none S5 ∧ Ans (d + 9) 358 [.ref t, .int (nI z), .int kd, .long a, .long b] S5 none (keyW z w2 w4 w5 kd a b S5) ∧ sA S4 91 = sA Sr 91 ∧ sL S4 92 = sL Sr 92 ∧ sL S4 93 = sL Sr 93 ∧ sA S5 91 = sA Sr 91 ∧ sL S5 92 = sL Sr 92 ∧ sL S5 93 = sL Sr 93 ∧ (∃ l, sS S4 = sS Sr ++ l) ∧ (∃ l, sS S5 = sS Sr ++ l) ∧ sA (keyW z w2 w4 w5 kd a b S5) 87 = sA Sr 87 ∧ (∀ i, i ≠ 100 * t + 1 → sI (keyW z w2 w4 w5 kd a b S5) i = sI Sr i) ∧ sI (keyW z w2 w4 w5 kd a b S5) (100 * t + 1) = nI (z + 1) ∧ tOk (keyW z w2 w4 w5 kd a b S5) o t ∧ tF o t Sr (keyW z w2 w4 w5 kd a b S5) ∧ tRef (keyW z w2 w4 w5 kd a b S5) o t w2 w3 w4 w5 w6 w7 n' m' ∧ z + 1 ≤ n' ∧ z + 1 ≤ m' ∧ (∀ i, i < z → sA (keyW z w2 w4 w5 kd a b S5) w2 i = sA Sr v2 i ∧ sL (keyW z w2 w4 w5 kd a b S5) w4 i = sL Sr v4 i ∧ sL (keyW z w2 w4 w5 kd a b S5) w5 i = sL Sr v5 i) ∧ sA (keyW z w2 w4 w5 kd a b S5) w2 z = kd ∧ sL (keyW z w2 w4 w5 kd a b S5) w4 z = a ∧ sL (keyW z w2 w4 w5 kd a b S5) w5 z = b ∧ (∀ i, i < z → sA (keyW z w2 w4 w5 kd a b S5) w3 i = sA Sr v3 i ∧ sL (keyW z w2 w4 w5 kd a b S5) w6 i = sL Sr v6 i ∧ sL (keyW z w2 w4 w5 kd a b S5) w7 i = sL Sr v7 i) ∧ sA (keyW z w2 w4 w5 kd a b S5) w3 z = kk ∧ sL (keyW z w2 w4 w5 kd a b S5) w6 z = ka ∧ sL (keyW z w2 w4 w5 kd a b S5) w7 z = kb := by
  have hw0 := hw
  obtain ⟨S4, A4, w2, w4, w5, n', t4, d4, n4, i4, o4, x4, y4, z4, e3, e6, e7, eA4, eL4, eI4, ⟨l4, eS4⟩, ln4, F4⟩ := radd_T (d := d) (kd := nI 0) (xa := 0) (xb := 0) hw hd hz hzn (by omega) hl
  obtain ⟨S5, A5, w3, w6, w7, m', t5, d5, m5, o5, x5, y5, z5, f2, f4, f5, eA5, eL5, eI5, ⟨l5, eS5⟩, ln5, F5, k5⟩ := rkey_T (d := d) (k := z) (kd := kk) (xa := ka) (xb := kb) t4 d4 hzm h100 ln4
  have A6 := rset_T (d := d) (kd := kd) (xa := a) (xb := b) t5 (show z < n' by omega)
  have t6 := setW_T (e := z) (kd := kd) (a := a) (b := b) t5
  have F6 := setW_tF (e := z) (kd := kd) (a := a) (b := b) t5 d5.2.1
  have lt1 : ∀ (f v : Nat), 2 ≤ f → f ≤ 7 → sV Sr (100 * t + f) = .ref v → v < 108 + (sS Sr).length := fun f v f2 f7 hv => (tRef_v hw0 f2 f7 hv).2.1
  have lt2 : ∀ (f v : Nat), 2 ≤ f → f ≤ 7 → sV S4 (100 * t + f) = .ref v → v < 108 + (sS S4).length := fun f v f2 f7 hv => (tRef_v t4 f2 f7 hv).2.1
  have hb := hw0.2.2.2.2.2.2.2.2.2.2.2.2.2.2.2.2.2
  have kkey : ∀ j, j < m → ∃ e, e < 2 ^ 20 ∧ sA S4 v3 j = nI e := fun j hj' => by rw [e3]; exact hj j hj'
  have k6 := k5 kkey hkk
  obtain ⟨c23, c45, c46, c47, c56, c57, c67⟩ := d5
  obtain ⟨_, _, _, _, _, _, _, _, _, q1, q2, q3, q4, q5, q6, _, _, r2, r3, r4, r5, r6, r7⟩ := hw
  have v2l := (isK_at q1 r2).1
  have v4l := (isK_at q3 r4).1
  refine ⟨S4, S5, w2, w3, w4, w5, w6, w7, n', m', A4, A5, A6, eA4 91 (by omega) (by omega), eL4 92 (by omega) (by omega) (by omega), eL4 93 (by omega) (by omega) (by omega), ?_, ?_, ?_, ⟨l4, eS4⟩, ⟨l4 ++ l5, by rw [eS5, eS4, List.append_assoc]⟩, ?_, fun i hi => ?_, ?_, setW_ok t5 ⟨c23, c45, c46, c47, c56, c57, c67⟩ ln5 k6, (F4.trans F5 lt1).trans F6 lt1, t6, n4, m5, fun i hi => ?_, ?_, ?_, ?_, fun i hi => ?_, ?_, ?_, ?_⟩
  · rw [eA5 91 (by have := t5.2.2.2.2.2.2.2.2.2.2.2.2.2.2.2.2.2; rw [eS4, List.length_append]; omega) (by obtain ⟨_, _, _, _, _, _, _, _, _, _, _, _, _, _, _, _, _, u2, u3, u4, u5, u6, u7⟩ := t4; omega), eA4 91 (by omega) (by omega)]
  · obtain ⟨_, _, _, _, _, _, _, _, _, _, _, _, _, _, _, _, _, u2, u3, u4, u5, u6, u7⟩ := t4
    rw [eL5 92 (by rw [eS4, List.length_append]; omega) (by omega) (by omega), eL4 92 (by omega) (by omega) (by omega)]
  · obtain ⟨_, _, _, _, _, _, _, _, _, _, _, _, _, _, _, _, _, u2, u3, u4, u5, u6, u7⟩ := t4
    rw [eL5 93 (by rw [eS4, List.length_append]; omega) (by omega) (by omega), eL4 93 (by omega) (by omega) (by omega)]
  · obtain ⟨_, _, _, _, _, _, _, _, _, _, _, _, _, _, _, _, _, u2, u3, u4, u5, u6, u7⟩ := t4
    rw [keyW_A, if_neg (by omega), eA5 87 (by rw [eS4, List.length_append]; omega) (by omega), eA4 87 (by omega) (by omega)]
  · show sI S5 i = _
    rw [eI5]
    exact eI4 i hi
  · show sI S5 (100 * t + 1) = _
    rw [eI5]
    exact i4
  · rw [keyW_A, if_pos rfl, keyW_L c45, keyW_L c45, if_neg c45, if_pos rfl, if_pos rfl]
    have hne : i ≠ z := by omega
    refine ⟨(if_neg hne).trans ?_, (if_neg hne).trans ?_, (if_neg hne).trans ?_⟩
    · rw [f2]; exact (o4 i hi).1
    · rw [f4]; exact (o4 i hi).2.1
    · rw [f5]; exact (o4 i hi).2.2
  · rw [keyW_A, if_pos rfl]; exact if_pos rfl
  · rw [keyW_L c45, if_neg c45, if_pos rfl]; exact if_pos rfl
  · rw [keyW_L c45, if_pos rfl]; exact if_pos rfl
  · rw [keyW_A, if_neg (fun c => c23 c.symm), keyW_L c45, keyW_L c45, if_neg (fun c => c56 c.symm), if_neg (fun c => c46 c.symm), if_neg (fun c => c57 c.symm), if_neg (fun c => c47 c.symm)]
    obtain ⟨p1, p2, p3⟩ := o5 i hi
    rw [p1, p2, p3, e3, e6, e7]
    exact ⟨rfl, rfl, rfl⟩
  · rw [keyW_A, if_neg (fun c => c23 c.symm)]; exact x5
  · rw [keyW_L c45, if_neg (fun c => c56 c.symm), if_neg (fun c => c46 c.symm)]; exact y5
  · rw [keyW_L c45, if_neg (fun c => c57 c.symm), if_neg (fun c => c47 c.symm)]; exact z5
end
