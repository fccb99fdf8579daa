/-! CALLS, THE CLASS: a frame is made and filled -/
/-- the class with other holds -/
def CIg (xm : Nat) (g : Nat → Nat) (F : Nat → Nat → Nat → Prop) (loc par : Nat → Nat → Nat) (ty : Nat → Nat × Nat) (G : Nat → Nat → Nat → Nat × Nat × LL → Prop) (tq : Nat → Nat × Nat) (C : List Lv) (S : cS) : Prop :=
  mHS xm g (topC C) S ∧ rwL S ∧ stkC S C ∧ (∀ k, lv S k → tyO F loc par ty S k ∧ vlO S k) ∧ cCal S C ∧ lvOk G ty S C ∧ cRg S C ∧ triC G tq S C ∧ (∀ q, q < 4096 → c_kind (sL S 21 q) ≠ nI 5)
section
variable {F : Nat → Nat → Nat → Prop} {loc par : Nat → Nat → Nat} {ty : Nat → Nat × Nat} {G : Nat → Nat → Nat → Nat × Nat × LL → Prop} {d n m p q k j f s o t i e z y u v kd : Nat} {g g' : Nat → Nat} {tq : Nat → Nat × Nat} {r : List Lv} {x : Lv} {S S' S1 X W : cS} {hi lo : Int64}
theorem nbX_g (h : nbX k g t S X) (hm : mHS k g' t W) (hR : rwL W) (hF : CFm X W) (hE : ∀ j, 1 ≤ j → j ≤ 1500 → j ≠ k → obE X W j) (h3 : sA W 3 k = sA X 3 k) (hL : ∀ a, a < 108 → sL W a = sL X a) : nbX k g' t S W := by
  obtain ⟨a1, a2, a3, a4, a5, a6, a7, a8, a9⟩ := h
  have hlv : ∀ q, lv W q ↔ lv X q := fun q => by
    constructor
    · intro hq
      refine ⟨hq.1, hq.2.1, ?_⟩
      by_cases c : q = k
      · subst c; rw [← h3]; exact hq.2.2
      · rw [← (hE q hq.1 hq.2.1 c).1]; exact hq.2.2
    · intro hq
      refine ⟨hq.1, hq.2.1, ?_⟩
      by_cases c : q = k
      · subst c; rw [h3]; exact hq.2.2
      · rw [(hE q hq.1 hq.2.1 c).1]; exact hq.2.2
  exact ⟨hm, hR, a3.trans hF, a4, fun q => (hlv q).trans (a5 q), fun j hj => (a6 j hj).trans (hE j hj.1 hj.2.1 (fun c => a4 (c ▸ hj))), fun a ha => (hL a ha).trans (a7 a ha), a8, a9⟩
theorem mHS_wk (h : mHS 0 g t S) : mHS k g t S := ⟨h.1, fun j hj _ => h.2.1 j hj (by have := hj.1; omega), h.2.2⟩
/-- the new object is held by a call -/
theorem nb_hold (h : nbX k g t S X) (hg : ∀ k, g k < 1000) : ∃ W, Ans (d + 1) 149 [.ref 2, .ref 6, .int (nI k)] X none W ∧ mHS 0 (fun q => g q + dl k q) t W ∧ nbX k (fun q => g q + dl k q) t S W ∧ (∀ j, 1 ≤ j → j ≤ 1500 → obE X W j) ∧ sI W = sI X := by
  have hk := nbX_lk h
  obtain ⟨a1, a2, a3⟩ := hold6_HS h.1 hk.2.1 (Or.inr hk) (Or.inr rfl) hg
  have hA := hold_T6 (d := d) (S := X) hk.1 hk.2.1
  have ec : c_hold 6 k X = wA 6 k (sA X 6 k + nI 1) X := if_neg (by have := hk.1; omega)
  rw [ec] at a1 a2 a3
  have hE : ∀ j, 1 ≤ j → j ≤ 1500 → obE X (wA 6 k (sA X 6 k + nI 1) X) j := fun j h1 h2 => obE_KX (KX_fr a2) (mHS_ok h.1 j h1 h2) List.not_mem_nil
  exact ⟨_, hA, a1, nbX_g h (mHS_wk a1) (rwL_FrL a2 h.2.1) (CFm_FrL a2 (by decide) (by decide) (by decide)) (fun j h1 h2 _ => hE j h1 h2) rfl (fun a _ => by rw [a3]), hE, rfl⟩
theorem nb_open (h : nbX k g t S X) (hkd : sA X 3 k = nI 7) (hz : sA X 10 k = nI 0) (hn : n ≤ 300) : ∃ W, Ans (d + 4) 257 [.ref 2, .int (nI k), .int (nI n)] X none W ∧ nbX k g t S W ∧ sI W = sI X ∧ (∀ b, b ≠ 4 → b ≠ 10 → sA W b = sA X b) ∧ sA W 10 k = nI n ∧ ∀ i, i < 2 * n → sL W (h_row W k) i = 0 := by
  obtain ⟨W, b1, b2, b3, b4, b5, b6, b7, b8, b9⟩ := mopen_T (d := d) (n := n) h.1 h.2.1 (nbX_lk h) hkd hz hn
  exact ⟨W, b1, nbX_ch h b2 b3 b4 b5 (by rw [b7.2.1 3 (by omega) (by omega)]) (fun a ha => b7.2.2 a ha), b7.1, b7.2.1, b8, b9⟩
theorem nb_fill (h : nbX k g t S X) (hkd : sA X 3 k = nI 7) (hz : sA X 10 k = nI z) (hz2 : z ≤ 300) (he : e < z) (hu : sL X (h_row X k) (2 * e) = 0 ∧ sL X (h_row X k) (2 * e + 1) = 0) (ho : c_obj hi lo = nI o) (hol : o = 0 ∨ lv X o) : ∃ W, Ans (d + 3) 260 [.ref 2, .int (nI k), .int (nI e), .long hi, .long lo] X none W ∧ nbX k g t S W ∧ sI W = sI X ∧ (∀ b, b ≠ 4 → b ≠ 10 → sA W b = sA X b) ∧ sA W 10 k = nI z ∧ h_row W k = h_row X k ∧ (∀ i, i ≠ 2 * e → i ≠ 2 * e + 1 → sL W (h_row X k) i = sL X (h_row X k) i) ∧ sL W (h_row X k) (2 * e) = hi ∧ sL W (h_row X k) (2 * e + 1) = lo := by
  obtain ⟨W, b1, b2, b3, b4, b5, b6, b7, b8, b9, b10, b11, b12⟩ := mfill_T (d := d) h.1 h.2.1 (nbX_lk h) hkd hz hz2 he hu ho hol
  exact ⟨W, b1, nbX_ch h b2 b3 b4 b5 (by rw [b7.2.1 3 (by omega) (by omega)]) (fun a ha => b7.2.2 a ha), b7.1, b7.2.1, by rw [b8]; exact hz, b9, b10, b11, b12⟩
theorem CIg_of {ty' : Nat → Nat × Nat} (h : CIg 0 g F loc par ty G tq (x :: r) S) (hN : nbX k g' (topC (x :: r)) S X) (hgg : ∀ j, gC (x :: r) j ≤ g' j) (hty : ∀ j, j ≠ k → ty' j = ty j) (ho : tyO F loc par ty' X k ∧ vlO X k) : CIg k g' F loc par ty' G tq (x :: r) X := by
  obtain ⟨a1, a2, a3, a4, a5, a6, a7, a8, a9⟩ := h
  obtain ⟨n1, n2, n3, n4, n5, n6, n7, n8, n9⟩ := hN
  have ht : ∀ j, lv S j → ty' j = ty j := fun j hj => hty j (fun c => n4 (c ▸ hj))
  have eA : ∀ a, a ∉ cfA0 → sA X a = sA S a := n3.2.2.2.1
  have eI : ∀ i, i ∉ cfI0 → sI X i = sI S i := n3.2.2.1
  have hS : ∀ o, lv S o → (lv X o → sA X 3 o = sA S 3 o) := fun o ho _ => (n6 o ho).1
  have hlvS : ∀ {o}, lv S o → lv X o := fun ho => (n5 _).mpr (Or.inl ho)
  refine ⟨n1, n2, ?_, fun j hj => ?_, ?_, ?_, ?_, ?_, fun q hq => ?_⟩
  · refine stkC_N (n := topC (x :: r)) a3 (fun y hy => ?_) (fun i _ => by rw [n7 47 (by omega), n7 48 (by omega)]; exact ⟨rfl, rfl⟩) n1.2.2.2.2.1 hS
    rcases List.mem_cons.mp hy with e | hy
    · rw [e]; exact Nat.le_refl _
    · have := cCal_lo a5 y hy
      show _ ≤ vB x + vH x
      omega
  · rcases (n5 j).mp hj with c | c
    · obtain ⟨b1, b2⟩ := a4 j c
      exact ⟨tyO_K (tyO_ty b1 c ht) (n6 j c) (fun o ho => ⟨fun _ => hlvS ho, fun _ => (n6 o ho).1⟩), vlO_K b2 (n6 j c)⟩
    · rw [c]; exact ho
  · exact cCal_E a5 (fun a ha => eA a (fun c => by revert ha c; revert a; decide))
  · exact lvOk_N (lvOk_ty a6 ht) (fun y hy => by
      obtain ⟨c1, c2⟩ := gC_pos hy
      exact ⟨fun c => n1.2.2.2.2.2.2.1 _ (by have := c1 c; have := hgg (vF y); omega), fun c => n1.2.2.2.2.2.2.1 _ (by have := c2 c; have := hgg (vD y); omega)⟩) hS
  · obtain ⟨b1, b2, b3, b4⟩ := a7
    exact ⟨by rw [eI 5213 (by decide)]; exact b1, by rw [eI 5214 (by decide)]; exact b2, by rw [eI 5215 (by decide)]; exact b3, b4⟩
  · exact triC_E a8 (eA 60 (by decide))
  · rw [n7 21 (by omega)]
    exact a9 q hq
end
