/-! DEEDS ON BOTH SIDES: an item is put, whole -/
section
variable {P : Nat → Prop} {T : cS} {gT : Nat} {Q : Nat → Prop} {β : Nat → Nat} {F : Nat → Nat → Nat → Prop} {loc par : Nat → Nat → Nat} {ty : Nat → Nat × Nat} {G : Nat → Nat → Nat → Nat × Nat × LL → Prop} {D D' K : List Nat} {z nn g0 g1 g3 g4 g5 gn d v o t k e n m ob_ kb vb v2 v3 v4 v5 v6 v7 : Nat} {tq : Nat → Nat × Nat} {C r : List Lv} {x : Lv} {g : Nat → Nat} {Sc Sr S S' X W W0 : cS} {hi lo a b kh kl : Int64} {kd : Int32}
/-- the relation behind set -/
theorem set_HR (hR : HR Q β F D S Sr g0 g1 nn) (hM : mtX k K S X S') (hl : lv S k) (ht : sQ Sr 86 (β k) = some t) (hw : tRef Sr (β k) t v2 v3 v4 v5 v6 v7 n m) (hd : dsV v2 v3 v4 v5 v6 v7) (hln : tLn n m) (hj : ∀ j, j < m → ∃ e, e < 2 ^ 20 ∧ sA Sr v3 j = nI e) (he : e < h_n S k) (hnX : h_n X k = h_n S k) (hkX : h_kd X k = h_kd S k) (hev : ∀ i, i < h_n S k → h_hi X k i = (if i = e then hi else h_hi S k i) ∧ h_lo X k i = (if i = e then lo else h_lo S k i)) (hek : c_width (h_kd S k) = 4 → ∀ i, i < h_n S k → h_kh X k i = h_kh S k i ∧ h_kl X k i = h_kl S k i) (hv : vrel β hi lo kd a b) : HR Q β F D X (keyW e v2 v4 v5 kd a b Sr) g0 g1 nn ∧ tF (β k) t Sr (keyW e v2 v4 v5 kd a b Sr) := by
  have hob := hR.ob hl
  obtain ⟨c2, c3, c4, c5, c6⟩ := obR_x hob ht hw
  obtain ⟨hK, hCF, hE, hclX, hokX, hlX, hLX, x3, x7, x8, x9⟩ := hM
  obtain ⟨c23, c45, c46, c47, c56, c57, c67⟩ := hd
  have hT := setW_tF (e := e) (kd := kd) (a := a) (b := b) hw c45
  have h87 : sA Sr 87 (β k) = nI 1 := (hR.2.2.2.2.2.2.2.2.2.2 (β k) hob.1).resolve_left hob.2.1
  have g2 : 108 ≤ v2 := hw.2.2.2.2.2.2.2.2.2.2.2.2.2.2.2.2.2.1
  have h87' : sA (keyW e v2 v4 v5 kd a b Sr) 87 (β k) = nI 1 := by
    rw [keyW_A, if_neg (by omega)]
    exact h87
  have hN := tF_N hR.wf hT hob.1 ht hR.2.2.2.2.2.2.2.2.2.1
  have hXl : lv X k := (hlX k).mpr hl
  refine ⟨HR_upd hR hl ht hT (setW_ok hw ⟨c23, c45, c46, c47, c56, c57, c67⟩ hln hj) h87' hlX hE hclX (hokX k hXl.1 hXl.2.1) (obR_mk hob ht (by rw [x3]) (by rw [x7]) (by rw [x8]) (by rw [x9]) (setW_T hw) (by rw [h87']; decide) (fun i _ _ => rfl) (fun _ => rfl) hN (by rw [hnX]; exact c3) (by rw [hnX]; exact c4) (fun i hi' => ?_) (fun hw4 => ?_)), hT⟩
  · rw [hnX] at hi'
    obtain ⟨p1, p2⟩ := hev i hi'
    rw [p1, p2, keyW_A, if_pos rfl, keyW_L c45, keyW_L c45, if_neg c45, if_pos rfl, if_pos rfl]
    have q := c5 i hi'
    show vrel β _ _ (if i = e then kd else sA Sr v2 i) (if i = e then a else sL Sr v4 i) (if i = e then b else sL Sr v5 i)
    by_cases c : i = e
    · rw [if_pos c, if_pos c, if_pos c, if_pos c, if_pos c]
      exact hv
    · rw [if_neg c, if_neg c, if_neg c, if_neg c, if_neg c]
      exact q
  · rw [hkX] at hw4
    rw [hnX]
    refine ⟨(c6 hw4).1, fun i hi' => ?_⟩
    obtain ⟨p1, p2⟩ := hek hw4 i hi'
    rw [p1, p2, hkX, keyW_A, if_neg (fun c => c23 c.symm), keyW_L c45, keyW_L c45, if_neg (fun c => c56 c.symm), if_neg (fun c => c46 c.symm), if_neg (fun c => c57 c.symm), if_neg (fun c => c47 c.symm)]
    exact keyRE hN ((c6 hw4).2 i hi')
/-- the relation behind an entry with its key -/
theorem addk_HR {w2 w3 w4 w5 w6 w7 n' m' : Nat} (hR : HR Q β F D S Sr g0 g1 nn) (hM : mtX k K S X S') (hl : lv S k) (ht : sQ Sr 86 (β k) = some t) (hT : tF (β k) t Sr W) (hok : tOk W (β k) t) (hW : tRef W (β k) t w2 w3 w4 w5 w6 w7 n' m') (hw : tRef Sr (β k) t v2 v3 v4 v5 v6 v7 n m) (hI : ∀ i, i ≠ 100 * t + 1 → sI W i = sI Sr i) (h1 : sI W (100 * t + 1) = nI (h_n S k + 1)) (h8 : sA S 3 k ≠ nI 3) (h87 : sA W 87 (β k) = nI 1) (hn' : h_n S k + 1 ≤ n') (hm' : c_width (h_kd S k) = 4 → h_n S k + 1 ≤ m') (hnX : h_n X k = h_n S k + 1) (hkX : h_kd X k = h_kd S k) (hev : ∀ i, i < h_n S k → h_hi X k i = h_hi S k i ∧ h_lo X k i = h_lo S k i) (hv1 : h_hi X k (h_n S k) = hi) (hv2 : h_lo X k (h_n S k) = lo) (hek : c_width (h_kd S k) = 4 → (∀ i, i < h_n S k → h_kh X k i = h_kh S k i ∧ h_kl X k i = h_kl S k i) ∧ h_kh X k (h_n S k) = kh ∧ h_kl X k (h_n S k) = kl) (hv : vrel β hi lo kd a b) (r1 : ∀ i, i < h_n S k → sA W w2 i = sA Sr v2 i ∧ sL W w4 i = sL Sr v4 i ∧ sL W w5 i = sL Sr v5 i) (r2 : sA W w2 (h_n S k) = kd ∧ sL W w4 (h_n S k) = a ∧ sL W w5 (h_n S k) = b) (r3 : c_width (h_kd S k) = 4 → ∀ i, i < h_n S k → sA W w3 i = sA Sr v3 i ∧ sL W w6 i = sL Sr v6 i ∧ sL W w7 i = sL Sr v7 i) (r4 : c_width (h_kd S k) = 4 → keyR β W g0 g1 nn (h_kd S k) kh kl (sA W w3 (h_n S k)) (sL W w6 (h_n S k)) (sL W w7 (h_n S k))) : HR Q β F D X W g0 g1 nn := by
  have hob := hR.ob hl
  obtain ⟨c2, c3, c4, c5, c6⟩ := obR_x hob ht hw
  obtain ⟨hK, hCF, hE, hclX, hokX, hlX, hLX, x3, x7, x8, x9⟩ := hM
  have hN := tF_N hR.wf hT hob.1 ht hR.2.2.2.2.2.2.2.2.2.1
  have hXl : lv X k := (hlX k).mpr hl
  refine HR_upd hR hl ht hT hok h87 hlX hE hclX (hokX k hXl.1 hXl.2.1) (obR_mk hob ht (by rw [x3]) (by rw [x7]) (by rw [x8]) (by rw [x9]) hW (by rw [h87]; decide) (fun i _ hi => hI _ (by omega)) (fun c => absurd c h8) hN (by rw [hnX]; exact h1) (by rw [hnX]; exact hn') (fun i hi' => ?_) (fun hw4 => ?_))
  · rw [hnX] at hi'
    by_cases c : i = h_n S k
    · rw [c, hv1, hv2, r2.1, r2.2.1, r2.2.2]
      exact hv
    · obtain ⟨p1, p2⟩ := hev i (by omega)
      obtain ⟨q1, q2, q3⟩ := r1 i (by omega)
      rw [p1, p2, q1, q2, q3]
      exact c5 i (by omega)
  · rw [hkX] at hw4
    obtain ⟨k1, k2, k3⟩ := hek hw4
    rw [hnX]
    refine ⟨hm' hw4, fun i hi' => ?_⟩
    by_cases c : i = h_n S k
    · rw [c, hkX, k2, k3]
      exact r4 hw4
    · obtain ⟨p1, p2⟩ := k1 i (by omega)
      obtain ⟨q1, q2, q3⟩ := r3 hw4 i (by omega)
      rw [hkX, p1, p2, q1, q2, q3]
      exact keyRE hN ((c6 hw4).2 i (by omega))
theorem lcQ_4 (h : lcQ S o hi lo (.inl 4)) : h_kd S o = 2 ∧ (c_kind hi = nI 2 ∨ c_kind hi = nI 3) := by
  rcases h with ⟨_, _, c⟩ | ⟨_, _, c⟩ | ⟨_, _, c⟩ | ⟨_, _, _, c⟩ | ⟨c, c', _⟩ | ⟨_, _, j, j1, c, _⟩
  · injection c with c; omega
  · injection c with c; omega
  · cases hx : ixR lo (h_n S o) with
    | some i => rw [hx] at c; cases c
    | none => rw [hx] at c; injection c with c; omega
  · injection c with c; omega
  · exact ⟨c, c'⟩
  · cases c
theorem lcQ_n (h : lcQ S o hi lo (.inl e)) (h1 : h_kd S o ≠ 1) (h2 : h_kd S o ≠ 2) : e = 2 := by
  rcases h with ⟨_, _, c⟩ | ⟨c, _⟩ | ⟨c, _⟩ | ⟨c, _⟩ | ⟨c, _⟩ | ⟨c, _⟩
  · injection c
  · exact absurd c h1
  · exact absurd c h1
  · exact absurd c h2
  · exact absurd c h2
  · exact absurd c h2
theorem lcC_4 : ∀ e, e < 5 → 2 ≤ e → ((lcC (.inl e) = (Int8.ofInt (-4)).toInt32) ↔ e = 4) := by decide
end
