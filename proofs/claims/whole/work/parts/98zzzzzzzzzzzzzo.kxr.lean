/-! CALLS THAT END: the class's heap beside its registers; a hold is let go; a call ends -/
def rgI : List Nat := [5213, 5214, 5215, 5216, 5217]
/-- objects die, and registers change -/
def KXr (K : List Nat) (S S' : cS) : Prop := ∃ Y, KX K S Y ∧ FrL rgI [] [] Y S'
section
variable {F : Nat → Nat → Nat → Prop} {loc par : Nat → Nat → Nat} {ty : Nat → Nat × Nat} {G : Nat → Nat → Nat → Nat × Nat × LL → Prop} {d n m p q k j f s o t i e z y u v kd md fr fr' ln : Nat} {g g' : Nat → Nat} {tq : Nat → Nat × Nat} {r : List Lv} {x : Lv} {K K1 K2 : List Nat} {S S' S1 S2 X Y W Z : cS} {hi lo : Int64}
theorem rg_A (h : FrL rgI [] [] Y S') : sA S' = sA Y := funext fun a => h.A (fun c => by cases c)
theorem rg_L (h : FrL rgI [] [] Y S') : sL S' = sL Y := funext fun a => h.2.1 a (fun c => by cases c)
theorem rg_Q (h : FrL rgI [] [] Y S') : sQ S' = sQ Y := h.2.2.2.1
theorem obE_A (e : sA S' = sA Y) (eL : sL S' = sL Y) (eQ : sQ S' = sQ Y) (k : Nat) : obE Y S' k := by
  refine ⟨by rw [e], by rw [e], by rw [e], by rw [e], by rw [e], fun i _ => ?_⟩
  have : h_row S' k = h_row Y k := by unfold h_row; rw [eQ]
  rw [this, eL]
theorem obE_rg (h : FrL rgI [] [] Y S') (k : Nat) : obE Y S' k := obE_A (rg_A h) (rg_L h) (rg_Q h) k
theorem KXr_of (h : KX K S S') : KXr K S S' := ⟨S', h, FrL.refl _ _ _ _⟩
theorem KXr_I {i : Nat} {n : Int32} (h : KXr K S S') (hi : i ∈ rgI) : KXr K S (wI i n S') := by
  obtain ⟨Y, h1, h2⟩ := h
  exact ⟨Y, h1, FrL_wI hi h2⟩
theorem KXr_X (h : KXr K1 S S1) (h2 : KX K2 S1 S2) (hcl : h_cl S1) (hok : ∀ k, 1 ≤ k → k ≤ 1500 → h_ok S k) : KXr (K1 ++ K2) S S2 := by
  obtain ⟨Y, a1, a2⟩ := h
  have eA := rg_A a2
  have eL := rg_L a2
  have eQ := rg_Q a2
  have et : ∀ k, tgs S1 k = tgs Y k := fun k => obE_tgs (obE_rg a2 k)
  obtain ⟨Z, hZ⟩ : ∃ Z : cS, Z = (fun i => if i ∈ rgI then sI Y i else sI S2 i, S2.2) := ⟨_, rfl⟩
  have z1 : ∀ i, sI Z i = if i ∈ rgI then sI Y i else sI S2 i := fun i => by rw [hZ]; rfl
  have z2 : sA Z = sA S2 := by rw [hZ]; rfl
  have z3 : sL Z = sL S2 := by rw [hZ]; rfl
  have z4 : sQ Z = sQ S2 := by rw [hZ]; rfl
  have z5 : sV Z = sV S2 := by rw [hZ]; rfl
  have z6 : sJ Z = sJ S2 := by rw [hZ]; rfl
  have z7 : sS Z = sS S2 := by rw [hZ]; rfl
  have z8 : mu Z = mu S2 := by rw [hZ]; rfl
  obtain ⟨b1, b2, b3, b4, b5, b6, b7⟩ := h2
  obtain ⟨c1, c2, c3, c4, c5, c6, c7, c8⟩ := b1
  obtain ⟨d1, d2, d3, d4, d5, d6, d7, d8⟩ := a2
  have hYZ : KX K2 Y Z := by
    refine ⟨⟨?_, fun a ha => ?_, ?_, ?_, ?_, ?_, fun i hi => ?_, fun a ha => ?_⟩, fun k => ?_, fun k => ?_, b4, fun k hk => ?_, ?_, fun x hx => ?_⟩
    · rw [z6, c1, d1]
    · rw [z3, c2 a ha, eL]
    · rw [z5, c3, d3]
    · rw [z4, c4, d4]
    · rw [z7, c5, d5]
    · rw [z8, c6, d6]
    · rw [z1]
      by_cases c : i ∈ rgI
      · rw [if_pos c]
      · rw [if_neg c, c7 i hi, d7 i c]
    · rw [z2, c8 a ha, eA]
    · rw [z2, b2 k, eA]
    · rw [z2, b3 k, eA]
    · rw [← eA]
      exact b5 k hk
    · exact b6.imp (fun {x y} hh => by rw [← et]; exact hh)
    · rw [← et]
      exact b7 x hx
  have hclY : h_cl Y := fun j h1 h2 h3 t ht => by
    have := hcl j h1 h2 (by rw [eA]; exact h3) t (by rw [et]; exact ht)
    rw [eA] at this
    exact this
  refine ⟨Z, KX_trans a1 hYZ hclY hok, ⟨by rw [z6], fun a _ => by rw [z3], by rw [z5], by rw [z4], by rw [z7], by rw [z8], fun i hi => by rw [z1, if_neg hi], fun a _ => by rw [z2]⟩⟩
theorem KXr_lv (h : KXr K S S') (k : Nat) : lv S' k ↔ lv S k ∧ k ∉ K := by
  obtain ⟨Y, h1, h2⟩ := h
  have : lv S' k ↔ lv Y k := by unfold lv; rw [rg_A h2]
  rw [this]
  exact lv_KX h1 k
theorem KXr_E (h : KXr K S S') (hok : h_ok S k) (hk : k ∉ K) : obE S S' k := by
  obtain ⟨Y, h1, h2⟩ := h
  exact (obE_KX h1 hok hk).trans (obE_rg h2 k)
theorem KXr_rw (h : KXr K S S') (hR : rwL S) : rwL S' := by
  obtain ⟨Y, h1, h2⟩ := h
  exact rwL_FrL h2 (rwL_KX hR h1)
theorem KXr_A (h : KXr K S S') {a : Nat} (ha : a ∉ kxA) : sA S' a = sA S a := by
  obtain ⟨Y, h1, h2⟩ := h
  rw [rg_A h2]
  exact h1.1.A ha
theorem KXr_L (h : KXr K S S') {a : Nat} (ha : a ≠ 47 ∧ a ≠ 48) : sL S' a = sL S a := by
  obtain ⟨Y, h1, h2⟩ := h
  rw [rg_L h2]
  exact h1.1.2.1 a (by simp only [List.mem_cons, List.not_mem_nil, or_false]; omega)
theorem KXr_N (h : KXr K S S') {i : Nat} (hi : i ∉ rgI) (h2 : i ∉ kxI) : sI S' i = sI S i := by
  obtain ⟨Y, a1, a2⟩ := h
  exact (a2.I hi).trans (a1.1.I h2)
theorem mHS_rg {xx : Nat} (h : mHS xx g t S) (hF : FrL rgI [] [] S W) : mHS xx g t W := mHS_F h hF (by decide) (fun a ha => by cases ha) (fun a ha => by cases ha)
/-- a hold of the machine is let go -/
theorem rel_hold (h : mHS 0 g t S) (ho1 : o ≤ 1500) (hol : o = 0 ∨ lv S o) (hst : ∀ k, 1 ≤ k → g' k + dl o k = g k) (h0 : g' 0 = 0) : ∃ S' K, Ans (d + 3) 142 [.ref 2, .ref 6, .int (nI o)] S none S' ∧ mHS 0 g' t S' ∧ KX K S S' ∧ sL S' = sL S ∧ sI S' 4603 = sI S 4603 := by
  obtain ⟨hP, hD, hT, hM, hL, hN, hG, hB, hg⟩ := h
  have hX : FrL [4603] [] [47, 48] S S := FrL.refl _ _ _ _
  have hF0 : FrL [4603] [4, 5, 6, 14] [47, 48] S S := FrL.refl _ _ _ _
  have hP1 : Hp no_e (nmE S) (fun k => (stE t S k + g' k) + dl o k) S := Hp_e6 hP (fun k k1 _ => by
    have := hst k k1
    show _ = stE t S k + g k
    omega)
  obtain ⟨hP2, hh⟩ := Hp_reL (f4 := no_e) (f5 := nmE S) (f6 := fun k => (stE t S k + g' k) + dl o k) hP1 hF0 (by decide) (by decide) (fun q q1 q2 => by
    obtain ⟨p4, p5, p6, p7, p8, p9⟩ := hP1.2.2.2.2.2 q q1 q2
    exact ⟨by rw [hX.A (by decide)]; exact p4, by rw [hX.A (by decide)]; exact p5, by rw [hX.A (by decide)]; exact p6, p7, p8, p9⟩)
  obtain ⟨S1, K, hA, c1, c2, c3, c4⟩ := release6 (d := d) (k := o) (S := S) (e5 := nmE S) (e6 := fun k => stE t S k + g' k) ho1 (hol.imp id (fun h => h.2.2)) hP2 (fun q q1 q2 q3 qn => by
    have := hD q ⟨q1, q2, q3⟩ (by omega)
    have h2 := hst q q1
    rw [dl_n qn] at h2
    omega)
  have hok : ∀ k, 1 ≤ k → k ≤ 1500 → h_ok S k := hP.1
  have hK := KX_Kill hF0 hok c3
  have eL : sL S1 = sL S := c3.1.2.1
  have eS : stE t S1 = stE t S := stE_L (fun i _ => by rw [eL]; exact ⟨rfl, rfl⟩)
  have eN : nmE S1 = nmE S := nmE_L eL
  have eB : nmB S1 = nmB S := nmB_L eL
  have hlv := lv_KX hK
  refine ⟨S1, K, hA, ⟨by rw [eN, eS]; exact c1, fun k hk _ => ?_, ?_, hM, ?_, ?_, fun k hk => ?_, ?_, fun k => ?_⟩, hK, eL, c3.1.I (by decide)⟩
  · have := c2 k hk.1 hk.2.1 hk.2.2
    rw [eN, eS]
    unfold no_e at this
    omega
  · rw [c3.1.I (by decide)]
    exact hT
  · intro i hi
    obtain ⟨q, q1, q2, q3⟩ := hL i hi
    refine ⟨q, q1, by rw [eL]; exact q2, q3.imp id (fun h => (hlv q).mpr ⟨h, fun hm => ?_⟩)⟩
    have := (c4 q hm).2
    have h2 := stE_pos (S := S) (o := q) hi (ob_n q2 q1)
    omega
  · intro i hi
    obtain ⟨q, q1, q2, q3⟩ := hN i hi
    refine ⟨q, q1, by rw [eL]; exact q2, q3.imp id (fun h => (hlv q).mpr ⟨h, fun hm => ?_⟩)⟩
    have := (c4 q hm).1
    have h2 := sumN_pos (f := fun i => if ob (sL S 21 i) (sL S 22 i) = q then 1 else 0) (k := i) (n := 4096) hi
    rw [if_pos (ob_n q2 q1)] at h2
    have h3 : 0 < nmE S q := h2
    omega
  · have hk1 : k ≠ 0 := fun c => by rw [c, h0] at hk; omega
    have h2 := hst k (by omega)
    refine (hlv k).mpr ⟨hG k (by omega), fun hm => ?_⟩
    have := (c4 k hm).2
    omega
  · rw [eB, c3.1.I (by decide)]
    exact hB
  · by_cases c : k = 0
    · rw [c, h0]
      omega
    · have h2 := hst k (by omega)
      have := hg k
      omega
/-- a call ends: what it holds beside its values is let go -/
theorem end_C (h : mHS 0 g t S) (h13 : sI S 5213 = nI (n + 1)) (hn : n < 30) (h15 : sI S 5215 = nI fr) (h58 : sA S 58 n = nI fr') (h55 : sA S 55 n = nI ln) (h59 : sA S 59 n = nI md) (hf1 : fr ≤ 1500) (hf : fr = 0 ∨ lv S fr) (hm1 : md ≤ 1500) (hm : md = 0 ∨ lv S md) (hg : ∀ k, 1 ≤ k → g' k + dl fr k + dl md k = g k) (h0 : g' 0 = 0) : ∃ S' K, Ans (d + 12) 150 [.ref 52] S none S' ∧ mHS 0 g' t S' ∧ KXr K S S' ∧ sL S' = sL S ∧ (sI S' 5213 = nI n ∧ sI S' 5215 = nI fr' ∧ sI S' 5217 = nI ln ∧ sI S' 5214 = sI S 5214 ∧ sI S' 5216 = sI S 5216) := by
  have m150 := ml_150
  obtain ⟨X, hX⟩ : ∃ X, X = wI 5217 (nI ln) (wI 5215 (nI fr') (wI 5213 (nI n) S)) := ⟨_, rfl⟩
  have hF : FrL rgI [] [] S X := by rw [hX]; exact FrL_wI (by decide) (FrL_wI (by decide) (FrL_wI (by decide) (FrL.refl _ _ _ _)))
  have eA := rg_A hF
  have elv : ∀ o, lv X o ↔ lv S o := fun o => by unfold lv; rw [eA]
  have hX1 := mHS_rg h hF
  obtain ⟨X1, K1, A1, m1, k1, l1, _⟩ := rel_hold (d := d + 8) (g' := fun k => if k = 0 then 0 else g' k + dl md k) hX1 hf1 (by rw [elv]; exact hf) (fun k hk => by
    have := hg k hk
    rw [if_neg (by omega)]
    omega) (if_pos rfl)
  have hmX : md = 0 ∨ lv X1 md := by
    by_cases c : md = 0
    · exact Or.inl c
    · refine Or.inr (m1.2.2.2.2.2.2.1 md ?_)
      show 0 < (if md = 0 then 0 else g' md + dl md md)
      rw [if_neg c, dl_e (by omega)]
      omega
  obtain ⟨X2, K2, A2, m2, k2, l2, _⟩ := rel_hold (d := d + 8) (g' := g') m1 hm1 hmX (fun k hk => by rw [if_neg (by omega)]) h0
  have c1 : KXr K1 S X1 := KXr_X (K1 := []) ⟨S, KX_refl S, hF⟩ k1 (mHS_cl hX1) (mHS_ok h)
  have c2 := KXr_X c1 k2 (mHS_cl m1) (mHS_ok h)
  have eI1 : ∀ i, i ∉ kxI → sI X1 i = sI X i := fun i hi => k1.1.I hi
  have eI2 : ∀ i, i ∉ kxI → sI X2 i = sI X i := fun i hi => (k2.1.I hi).trans (eI1 i hi)
  have e59 : sA X1 59 n = nI md := by rw [k1.1.A (by decide), eA]; exact h59
  have e13 : sI X1 5213 = nI n := by rw [eI1 _ (by decide), hX, rI, if_neg (by decide), rI, if_neg (by decide), rIe]
  have a58 : sA (wI 5213 (nI (n + 1 - 1)) S) 58 (n + 1 - 1) = nI fr' := h58
  have a55 : sA (wI 5215 (nI fr') (wI 5213 (nI (n + 1 - 1)) S)) 55 (n + 1 - 1) = nI ln := h55
  have i15 : sI (wI 5213 (nI (n + 1 - 1)) S) 5215 = nI fr := by rw [rI, if_neg (by decide)]; exact h15
  have hb : Bod (d + 11) 150 0 [(0, .ref 52)] [] S none X2 := by
    refine mEc_1 (d := d + 3) (cl := n + 1) (cl1 := n) h13 (by omega) (by omega) (by omega) (S1 := X1) ?_ e13 (by omega) hn ?_
    · rw [a58, a55, i15, show n + 1 - 1 = n from rfl, ← hX]
      exact A1
    · rw [e59]
      exact A2
  refine ⟨X2, K1 ++ K2, Ans.of (by rw [m150]; exact Nat.le_of_ble_eq_true rfl) (Bod.lv (by rfl) hb), m2, c2, by rw [l2, l1]; exact rg_L hF, ?_, ?_, ?_, ?_, ?_⟩
  · rw [eI2 _ (by decide), hX, rI, if_neg (by decide), rI, if_neg (by decide), rIe]
  · rw [eI2 _ (by decide), hX, rI, if_neg (by decide), rIe]
  · rw [eI2 _ (by decide), hX, rIe]
  · rw [eI2 _ (by decide), hX, rI, if_neg (by decide), rI, if_neg (by decide), rI, if_neg (by decide)]
  · rw [eI2 _ (by decide), hX, rI, if_neg (by decide), rI, if_neg (by decide), rI, if_neg (by decide)]
end
