/-! DEEDS ON BOTH SIDES: an item behind the others, alone -/
section
variable {P : Nat → Prop} {T : cS} {gT : Nat} {Q : Nat → Prop} {β : Nat → Nat} {F : Nat → Nat → Nat → Prop} {loc par : Nat → Nat → Nat} {ty : Nat → Nat × Nat} {G : Nat → Nat → Nat → Nat × Nat × LL → Prop} {D D' K : List Nat} {z nn g0 g1 g3 g4 g5 gn d v o t k e n m v2 v3 v4 v5 v6 v7 w2 w3 w4 w5 w6 w7 : Nat} {tq : Nat → Nat × Nat} {C r : List Lv} {x : Lv} {g : Nat → Nat} {Sc Sr S S' X W W0 : cS} {hi lo a b kh kl : Int64} {kd : Int32}
/-- append alone: the class -/
theorem app_W (h : CI F loc par ty G tq (x :: r) S) (hk : lv S k) (hw : c_width (h_kd S k) = 2 ∨ c_width (h_kd S k) = 4) (hk7 : h_kd S k ≠ 7) (ho : c_obj hi lo = nI o) (hol : o = 0 ∨ lv S o) (h0 : c_kind hi ≠ 0 ∧ c_kind hi ≠ nI 5) (hkk : h_kd S k = 2 → c_kind kh = nI 2 ∨ c_kind kh = nI 3) : (h_n S k = c_most (h_kd S k) ∧ Ans (d + 4) 183 [.ref 2, .int (nI k), .long kh, .long kl, .long hi, .long lo] S (some (.int (nI 0))) S) ∨ (h_n S k < c_most (h_kd S k) ∧ ∃ W, Ans (d + 4) 183 [.ref 2, .int (nI k), .long kh, .long kl, .long hi, .long lo] S (some (.int (nI 1))) W ∧ mtX k [] S W W ∧ CI F loc par ty G tq (x :: r) W ∧ (∀ i, sL W 47 i = sL S 47 i ∧ sL W 48 i = sL S 48 i) ∧ h_n W k = h_n S k + 1 ∧ h_kd W k = h_kd S k ∧ (∀ i, i < h_n S k → h_hi W k i = h_hi S k i ∧ h_lo W k i = h_lo S k i) ∧ h_hi W k (h_n S k) = hi ∧ h_lo W k (h_n S k) = lo ∧ (c_width (h_kd S k) = 4 → (∀ i, i < h_n S k → h_kh W k i = h_kh S k i ∧ h_kl W k i = h_kl S k i) ∧ h_kh W k (h_n S k) = kh ∧ h_kl W k (h_n S k) = kl)) := by
  obtain ⟨l1, l2, l3, l4, l5⟩ := CI_len h
  have hok := mHS_ok h.1 k hk.1 hk.2.1
  obtain ⟨kd, z, k7, z3, k3, k10, ekd, ez, hw0⟩ := kdz hok
  rw [ekd] at hw hk7 hkk ⊢
  have hn : h_n S k = z := by
    unfold h_n
    rw [ez, ekd, if_neg (by omega)]
  rw [hn]
  have hzm : z ≤ c_most kd := by
    obtain ⟨kd', z', _, _, _, m2, m3, _, _, _, _, m8, _⟩ := hok
    have ek : kd' = kd := nI_j (by omega) (by omega) (m2.symm.trans k3)
    have := c_most_le kd'
    have ez : z' = z := nI_j (by omega) (by omega) (m3.symm.trans k10)
    rw [← ek, ← ez]
    exact m8
  rcases mappend_T (d := d) (kh := kh) (kl := kl) h.1 h.2.1 hk k3 k7 rfl hw k10 hzm ho hol with ⟨c, A⟩ | ⟨c, W, A1, b1, b2, b3, b4, b5, b6, b7, b8, b9, b10, b11⟩
  · exact Or.inl ⟨c, A⟩
  · refine Or.inr ⟨c, ?_⟩
    have m2 := KX_refl W
    obtain ⟨p1, p2, p3⟩ := b6
    have x3 : sA W 3 = sA S 3 := p2 3 (by decide) (by decide)
    have hM : mtX k [] S W W := ⟨m2, b3, b4, mHS_cl b1, mHS_ok b1, fun q => by unfold lv; rw [x3], p3, x3, p2 7 (by decide) (by decide), p2 8 (by decide) (by decide), p2 9 (by decide) (by decide)⟩
    have eX : h_kd W k = kd := by unfold h_kd; rw [x3, k3, gN_nI (by omega)]
    have hnX : h_n W k = z + 1 := by
      unfold h_n h_z
      rw [eX, b7, if_neg (by omega), gN_nI (by omega)]
    have ev : ∀ i, i < z → h_hi W k i = h_hi S k i ∧ h_lo W k i = h_lo S k i := fun i hi' => by
      unfold h_hi h_lo
      rw [eX, ekd]
      unfold h_at
      rcases hw with cw | cw
      · rw [cw] at b8 ⊢
        exact ⟨b8 _ (by omega), b8 _ (by omega)⟩
      · rw [cw] at b8 ⊢
        exact ⟨b8 _ (by omega), b8 _ (by omega)⟩
    have ev2 : h_hi W k z = hi ∧ h_lo W k z = lo := by
      unfold h_hi h_lo
      rw [eX]
      exact ⟨b9, b10⟩
    have ekk : c_width kd = 4 → (∀ i, i < z → h_kh W k i = h_kh S k i ∧ h_kl W k i = h_kl S k i) ∧ h_kh W k z = kh ∧ h_kl W k z = kl := fun hw4 => by
      unfold h_kh h_kl
      rw [hw4] at b8
      exact ⟨fun i hi' => ⟨b8 _ (by omega), b8 _ (by omega)⟩, b11 hw4⟩
    have hst : ∀ i, sL W 47 i = sL S 47 i ∧ sL W 48 i = sL S 48 i := fun i => by
      rw [p3 47 (by omega), p3 48 (by omega)]
      exact ⟨rfl, rfl⟩
    refine ⟨W, A1, hM, ?_, hst, hnX, eX, ev, ev2.1, ev2.2, ekk⟩
    have h0l := CI_lob h
    have := CI_mut (v := 0) h hM (by rw [Nat.sub_zero]; exact b1) b2 (fun c => ?_) (fun _ => ⟨fun i hi' => ?_, fun c2' i hi' => ?_⟩) (fun i _ => hst i) (by omega) (vP x) (vQ x)
    · rw [Nat.sub_zero] at this
      exact this
    · rw [k3] at c
      exact absurd (nI_j (by omega) (by omega) c) (by omega)
    · obtain ⟨y1, y2⟩ := (h.2.2.2.1 k hk).2
      rw [hn] at y1
      rw [hnX] at hi'
      rw [x3]
      by_cases ci : i = z
      · rw [ci, ev2.1]
        exact ⟨h0.2, fun _ => h0.1⟩
      · rw [(ev i (by omega)).1]
        exact y1 i (by omega)
    · obtain ⟨y1, y2⟩ := (h.2.2.2.1 k hk).2
      rw [hn] at y2
      rw [hnX] at hi'
      rw [x3] at c2'
      have e2 : kd = 2 := nI_j (by omega) (by omega) (k3.symm.trans c2')
      obtain ⟨q1, q2, q3⟩ := ekk (by rw [e2]; rfl)
      by_cases ci : i = z
      · rw [ci, q2]
        exact hkk e2
      · rw [(q1 i (by omega)).1]
        exact y2 c2' i (by omega)
end
