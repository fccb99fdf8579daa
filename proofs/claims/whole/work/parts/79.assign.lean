/-! ASSIGN as a step -/
theorem ob_n {hi lo : Int64} {o : Nat} (h : c_obj hi lo = nI o) (ho : o ≤ 1500) : ob hi lo = o := by
  unfold ob
  rw [h, gN_nI (by omega)]
theorem nmE_L {S S' : cS} (h : sL S' = sL S) : nmE S' = nmE S := by
  funext t
  unfold nmE
  rw [h]
theorem nmB_L {S S' : cS} (h : sL S' = sL S) : nmB S' = nmB S := by
  unfold nmB
  rw [h]
theorem hold5_Fr (o : Nat) (S : cS) : Fr [] [5] S (c_hold 5 o S) := by
  unfold c_hold
  split
  · exact Fr.refl _ _ _
  · exact Fr_wA (by decide) (Fr.refl _ _ _)
theorem hold5_at (o : Nat) (S : cS) (t : Nat) : sA (c_hold 5 o S) 5 t = sA S 5 t + nI (dl o t) := by
  unfold c_hold dl
  by_cases h0 : o = 0
  · rw [if_pos h0, if_neg (fun c => c.1 h0)]
    exact (Int32.add_zero _).symm
  · rw [if_neg h0, rAe, upd_at]
    by_cases e : t = o
    · subst e
      rw [if_pos rfl, if_pos ⟨h0, rfl⟩]
    · rw [if_neg e, if_neg (fun c => e c.2)]
      exact (Int32.add_zero _).symm
theorem assign_mid {d k o oo b' : Nat} {hi lo : Int64} {S W : cS} {e6 : Nat → Nat} (hH : Hp no_e (nmE S) e6 S) (hd : Hd no_e (nmE S) e6 S) (hk : k < 4096) (ho : c_obj hi lo = nI o) (ho2 : o ≤ 1500) (hol : o = 0 ∨ lv S o) (hoo : c_obj (sL S 21 k) (sL S 22 k) = nI oo) (hoo2 : oo ≤ 1500) (hool : oo = 0 ∨ lv S oo) (hW : FrL [1608] [] [] S W) (hb : sI W 1608 = nI b') (hb' : b' + (if c_kind (sL S 21 k) = 0 then 0 else 1) = nmB S + (if c_kind hi = 0 then 0 else 1)) : ∃ S' K, Ans (d + 3) 142 [.ref 2, .ref 5, .int (nI oo)] (c_hold 5 o (wL 22 k lo (wL 21 k hi W))) none S' ∧ Hp no_e (nmE S') e6 S' ∧ Hd no_e (nmE S') e6 S' ∧ FrL [1608] [5] [21, 22] S (c_hold 5 o (wL 22 k lo (wL 21 k hi W))) ∧ Kill K (c_hold 5 o (wL 22 k lo (wL 21 k hi W))) S' ∧ sL S' 21 = vp_updL (sL S 21) k hi ∧ sL S' 22 = vp_updL (sL S 22) k lo ∧ sI S' 1608 = nI (nmB S') ∧ (∀ x, x ∈ K → nmE S' x = 0 ∧ e6 x = 0) := by
  obtain ⟨w1, w2, w3, w4, w5, w6, w7, w8⟩ := hW
  have hX := hold5_Fr o (wL 22 k lo (wL 21 k hi W))
  have h5 := fun t => hold5_at o (wL 22 k lo (wL 21 k hi W)) t
  generalize hSx : c_hold 5 o (wL 22 k lo (wL 21 k hi W)) = Sx at hX h5
  have l21 : sL Sx 21 = vp_updL (sL S 21) k hi := by
    rw [hX.2.1, rL, if_neg (by decide), rLe, w2 21 List.not_mem_nil]
  have l22 : sL Sx 22 = vp_updL (sL S 22) k lo := by
    rw [hX.2.1, rLe, rLn _ _ _ (by decide), w2 22 List.not_mem_nil]
  have hF : FrL [1608] [5] [21, 22] S Sx := by
    refine ⟨hX.1.trans w1, fun a ha => ?_, hX.2.2.1.trans w3, hX.2.2.2.1.trans w4, hX.2.2.2.2.1.trans w5, hX.2.2.2.2.2.1.trans w6, fun i hi => (hX.I List.not_mem_nil).trans (w7 i hi), fun a ha => (hX.A ha).trans (w8 a List.not_mem_nil)⟩
    rw [hX.2.1, rLn _ _ _ (fun e => ha (by rw [e]; decide)), rLn _ _ _ (fun e => ha (by rw [e]; decide)), w2 a List.not_mem_nil]
  have s5 : sA (wL 22 k lo (wL 21 k hi W)) 5 = sA S 5 := w8 5 List.not_mem_nil
  have u21 : ∀ q, sL Sx 21 q = if q = k then hi else sL S 21 q := fun q => by rw [l21]; rfl
  have u22 : ∀ q, sL Sx 22 q = if q = k then lo else sL S 22 q := fun q => by rw [l22]; rfl
  have hE := fun t => nmE_upd (S := S) (S' := Sx) hk (fun q hq => ⟨by rw [u21, if_neg hq], by rw [u22, if_neg hq]⟩) t
  have hBd := nmB_upd (S := S) (S' := Sx) hk (fun q hq => by rw [u21, if_neg hq])
  simp only [u21, u22, if_true, ob_n ho ho2, ob_n hoo hoo2] at hE hBd
  have hdl : ∀ x t, 1 ≤ t → (if x = t then 1 else 0) = dl x t := fun x t ht => by
    unfold dl
    by_cases e : x = t
    · rw [if_pos e, if_pos ⟨by omega, e.symm⟩]
    · rw [if_neg e, if_neg (fun c => e c.2.symm)]
  obtain ⟨hP, hhb⟩ := Hp_reL (S' := Sx) (L1 := [1608]) (L3 := [21, 22]) (f4 := no_e) (f5 := fun t => nmE Sx t + dl oo t) (f6 := e6) hH ⟨hF.1, hF.2.1, hF.2.2.1, hF.2.2.2.1, hF.2.2.2.2.1, hF.2.2.2.2.2.1, hF.2.2.2.2.2.2.1, fun a ha => hF.A (fun c => ha (by rw [List.mem_singleton.mp c]; decide))⟩ (by decide) (by decide) (fun t t1 t2 => by
    obtain ⟨p4, p5, p6, p7, p8, p9⟩ := hH.2.2.2.2.2 t t1 t2
    refine ⟨by rw [hF.A (by decide)]; exact p4, ?_, by rw [hF.A (by decide)]; exact p6, p7, ?_, p9⟩
    · rw [h5 t, s5, p5, nI_add]
      have := hE t
      rw [hdl o t t1, hdl oo t t1] at this
      exact congrArg nI (by omega)
    · have := nmE_le Sx t
      have : dl oo t ≤ 1 := by unfold dl; split <;> omega
      show nmE Sx t + dl oo t < 2 ^ 20
      omega)
  have hl3 : sA Sx 3 = sA S 3 := hF.A (by decide)
  obtain ⟨S', K, hA, hP', hD', hK, hz⟩ := release5 (d := d) (k := oo) (S := Sx) (e5 := nmE Sx) (e6 := e6) hoo2 (hool.imp id (fun h => by rw [hl3]; exact h.2.2)) hP (fun t t1 t2 hl hne => by
    rw [hl3] at hl
    have := hd t t1 t2 hl
    have e := hE t
    rw [hdl o t t1, hdl oo t t1, dl_n hne] at e
    rw [hhb t]
    unfold no_e at this
    omega)
  have hL : sL S' = sL Sx := hK.1.2.1
  refine ⟨S', K, hA, by rw [nmE_L hL]; exact hP', by rw [nmE_L hL]; exact hD', hF, hK, by rw [hL]; exact l21, by rw [hL]; exact l22, ?_, by rw [nmE_L hL]; exact hz⟩
  rw [hK.1.I (by decide), nmB_L hL]
  have : sI Sx 1608 = sI W 1608 := hX.I List.not_mem_nil
  rw [this, hb]
  exact congrArg nI (by omega)
theorem assign_step {d k o : Nat} {hi lo : Int64} {S : cS} {e6 : Nat → Nat} (hH : Hp no_e (nmE S) e6 S) (hd : Hd no_e (nmE S) e6 S) (hk : k < 4096) (hb : sI S 1608 = nI (nmB S)) (ho : c_obj hi lo = nI o) (ho2 : o ≤ 1500) (hol : o = 0 ∨ lv S o) (hn : ∃ oo, oo ≤ 1500 ∧ c_obj (sL S 21 k) (sL S 22 k) = nI oo ∧ (oo = 0 ∨ lv S oo)) : ∃ S' Sx K, Ans (d + 4) 173 [.ref 16, .int (nI k), .long hi, .long lo] S none S' ∧ Hp no_e (nmE S') e6 S' ∧ Hd no_e (nmE S') e6 S' ∧ FrL [1608] [5] [21, 22] S Sx ∧ Kill K Sx S' ∧ sL S' 21 = vp_updL (sL S 21) k hi ∧ sL S' 22 = vp_updL (sL S 22) k lo ∧ sI S' 1608 = nI (nmB S') ∧ (∀ x, x ∈ K → nmE S' x = 0 ∧ e6 x = 0) := by
  obtain ⟨oo, hoo2, hoo, hool⟩ := hn
  have hbl := nmB_le S
  have hF0 : FrL [1608] [] [] S S := ⟨rfl, fun _ _ => rfl, rfl, rfl, rfl, rfl, fun _ _ => rfl, fun _ _ => rfl⟩
  have hFw : ∀ v W, FrL [1608] [] [] S W → FrL [1608] [] [] S (wI 1608 v W) := fun v W h => ⟨h.1, h.2.1, h.2.2.1, h.2.2.2.1, h.2.2.2.2.1, h.2.2.2.2.2.1, fun i hi => (rIn (k := 1608) v W (i := i) (fun e => hi (by rw [e]; decide))).trans (h.I hi), h.2.2.2.2.2.2.2⟩
  have hpos : c_kind (sL S 21 k) ≠ 0 → 1 ≤ nmB S := fun h => by
    have := sumN_pos (f := fun q => if c_kind (sL S 21 q) = 0 then 0 else 1) (k := k) (n := 4096) hk
    simp only [if_neg h] at this
    exact this
  by_cases h0 : c_kind (sL S 21 k) = 0
  · by_cases h1 : c_kind hi = 0
    · obtain ⟨S', K, hA, r⟩ := assign_mid (d := d) hH hd hk ho ho2 hol hoo hoo2 hool hF0 hb (by rw [if_pos h0, if_pos h1])
      exact ⟨S', _, K, assign_uu hk hb hbl h0 h1 ho ho2 hoo hA, r⟩
    · obtain ⟨S', K, hA, r⟩ := assign_mid (d := d) hH hd hk ho ho2 hol hoo hoo2 hool (hFw (nI (nmB S + 1)) S hF0) (rIe _ _ _) (by rw [if_pos h0, if_neg h1])
      exact ⟨S', _, K, assign_ub hk hb hbl h0 h1 ho ho2 hoo hA, r⟩
  · have hp := hpos h0
    by_cases h1 : c_kind hi = 0
    · obtain ⟨S', K, hA, r⟩ := assign_mid (d := d) hH hd hk ho ho2 hol hoo hoo2 hool (hFw (nI (nmB S - 1)) S hF0) (rIe _ _ _) (by rw [if_neg h0, if_pos h1]; omega)
      exact ⟨S', _, K, assign_bu hk hb hbl hp h0 h1 ho ho2 hoo hA, r⟩
    · obtain ⟨S', K, hA, r⟩ := assign_mid (d := d) hH hd hk ho ho2 hol hoo hoo2 hool (hFw (nI (nmB S)) _ (hFw (nI (nmB S - 1)) S hF0)) (rIe _ _ _) (by rw [if_neg h0, if_neg h1])
      exact ⟨S', _, K, assign_bb hk hb hbl hp h0 h1 ho ho2 hoo hA, r⟩
