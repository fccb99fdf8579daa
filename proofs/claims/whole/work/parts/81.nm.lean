/-! NAMES OF BOTH: the same strings have the same values -/
def rnm (S : cS) (g0 r : Nat) : Nat → Nat := fun i => gN (sA S g0 (12 * r + i))
def rnH (S : cS) (g0 g1 r : Nat) : Int64 := e_H (rnm S g0 r) (gN (sA S g1 r))
def rnL (S : cS) (g0 g1 r : Nat) : Int64 := e_L (rnm S g0 r) (gN (sA S g1 r))
/-- number q of the class is number r of the reference -/
def nrel (S : cS) (g0 g1 q r : Nat) : Prop := c_is S (rnH S g0 g1 r) (rnL S g0 g1 r) q
def rnOk (S : cS) (g0 g1 r : Nat) : Prop := ∃ m, 1 ≤ m ∧ m ≤ 12 ∧ sA S g1 r = nI m ∧ ∀ i, i < m → ∃ b, b < 128 ∧ sA S g0 (12 * r + i) = nI b
/-- V, W: the values that the class's names have -/
def NMv (β : Nat → Nat) (S : cS) (V W : Nat → Int64) (z nn g0 g1 g3 g4 g5 : Nat) : Prop := (∀ r, r < nn → rnOk S g0 g1 r) ∧ (∀ r s, r < nn → s < nn → rnH S g0 g1 r = rnH S g0 g1 s → rnL S g0 g1 r = rnL S g0 g1 s → r = s) ∧ (∀ r q, r < nn → q < z → nrel S g0 g1 q r → vrel β (V q) (W q) (sA S g3 r) (sL S g4 r) (sL S g5 r)) ∧ (∀ r, r < nn → (∀ q, q < z → ¬ nrel S g0 g1 q r) → sA S g3 r = Int32.ofInt (-1)) ∧ (∀ q, q < z → (∀ r, r < nn → ¬ nrel S g0 g1 q r) → V q = 0 ∧ W q = 0) ∧ (∀ q, z ≤ q → q < 4096 → V q = 0 ∧ W q = 0)
def NM (β : Nat → Nat) (S : cS) (z nn g0 g1 g3 g4 g5 : Nat) : Prop := NMv β S (sL S 21) (sL S 22) z nn g0 g1 g3 g4 g5
theorem NMv_S {β : Nat → Nat} {S S' : cS} {V W : Nat → Int64} {z nn g0 g1 g3 g4 g5 : Nat} (h : NMv β S V W z nn g0 g1 g3 g4 g5) (e0 : sA S' g0 = sA S g0) (e1 : sA S' g1 = sA S g1) (e3 : sA S' g3 = sA S g3) (e4 : sL S' g4 = sL S g4) (e5 : sL S' g5 = sL S g5) (e17 : sL S' 17 = sL S 17) (e18 : sL S' 18 = sL S 18) : NMv β S' V W z nn g0 g1 g3 g4 g5 := by
  unfold NMv rnOk nrel c_is rnH rnL rnm
  rw [e0, e1, e3, e4, e5, e17, e18]
  exact h
theorem rn_eq {S S' : cS} {g0 g1 h0 h1 r : Nat} (ho : rnOk S g0 g1 r) (e1 : sA S' h1 r = sA S g1 r) (e0 : ∀ i, i < 12 → sA S' h0 (12 * r + i) = sA S g0 (12 * r + i)) : rnH S' h0 h1 r = rnH S g0 g1 r ∧ rnL S' h0 h1 r = rnL S g0 g1 r ∧ rnOk S' h0 h1 r := by
  obtain ⟨m, m1, m2, hm, hb⟩ := ho
  have e : ∀ i, i < m → rnm S' h0 r i = rnm S g0 r i := fun i hi => by unfold rnm; rw [e0 i (by omega)]
  unfold rnH rnL
  rw [e1, hm, gN_nI (by omega)]
  refine ⟨e_H_congr e, e_L_congr e, m, m1, m2, by rw [e1]; exact hm, fun i hi => ?_⟩
  obtain ⟨b, hb1, hb2⟩ := hb i hi
  exact ⟨b, hb1, by rw [e0 i (by omega)]; exact hb2⟩
/-- the class has learnt a name, or none -/
theorem NM_C {β : Nat → Nat} {S S' : cS} {z z' nn g0 g1 g3 g4 g5 : Nat} (h : NM β S z nn g0 g1 g3 g4 g5) (e0 : sA S' g0 = sA S g0) (e1 : sA S' g1 = sA S g1) (e3 : sA S' g3 = sA S g3) (e4 : sL S' g4 = sL S g4) (e5 : sL S' g5 = sL S g5) (e21 : sL S' 21 = sL S 21) (e22 : sL S' 22 = sL S 22) (e17 : ∀ q, q < z → sL S' 17 q = sL S 17 q ∧ sL S' 18 q = sL S 18 q) (hz : z' = z ∨ z' = z + 1 ∧ z < 4096) (hd : ∀ i k, i < z' → k < z' → sL S' 17 i = sL S' 17 k → sL S' 18 i = sL S' 18 k → i = k) : NM β S' z' nn g0 g1 g3 g4 g5 := by
  obtain ⟨n1, n2, n3, n4, n5, n6⟩ := h
  have hH : ∀ r, rnH S' g0 g1 r = rnH S g0 g1 r := fun r => by unfold rnH rnm; rw [e0, e1]
  have hL : ∀ r, rnL S' g0 g1 r = rnL S g0 g1 r := fun r => by unfold rnL rnm; rw [e0, e1]
  have hn : ∀ q r, q < z → (nrel S' g0 g1 q r ↔ nrel S g0 g1 q r) := fun q r hq => by
    unfold nrel c_is
    rw [hH, hL, (e17 q hq).1, (e17 q hq).2]
  refine ⟨fun r hr => ?_, fun r s hr hs => ?_, fun r q hr hq hnr => ?_, fun r hr hno => ?_, fun q hq hno => ?_, fun q h1 h2 => ?_⟩
  · unfold rnOk
    rw [e0, e1]
    exact n1 r hr
  · rw [hH, hH, hL, hL]
    exact n2 r s hr hs
  · rw [e21, e22, e3, e4, e5]
    by_cases hqz : q < z
    · exact n3 r q hr hqz ((hn q r hqz).mp hnr)
    · by_cases hex : ∃ p, p < z ∧ nrel S g0 g1 p r
      · obtain ⟨p, hp, hpr⟩ := hex
        have hpr' := (hn p r hp).mpr hpr
        have := hd p q (by omega) hq (hpr'.1.trans hnr.1.symm) (hpr'.2.trans hnr.2.symm)
        omega
      · have u := n6 q (by omega) (by omega)
        rw [u.1, u.2, n4 r hr (fun p hp hpr => hex ⟨p, hp, hpr⟩)]
        exact Or.inl ⟨rfl, rfl, rfl⟩
  · rw [e3]
    exact n4 r hr (fun q hq hqr => hno q (by omega) ((hn q r hq).mpr hqr))
  · rw [e21, e22]
    by_cases hqz : q < z
    · exact n5 q hqz (fun r hr hqr => hno r hr ((hn q r hqz).mpr hqr))
    · exact n6 q (by omega) (by omega)
  · rw [e21, e22]
    exact n6 q (by omega) h2
/-- the reference has learnt a name -/
theorem NM_R {β : Nat → Nat} {S S' : cS} {V W : Nat → Int64} {z nn g0 g1 g3 g4 g5 h0 h1 h3 h4 h5 ab fr n : Nat} (h : NMv β S V W z nn g0 g1 g3 g4 g5) (hk : r_kept S S' ab fr n nn g0 g1 g3 g4 g5 h0 h1 h3 h4 h5) (hn1 : 1 ≤ n) (hn12 : n ≤ 12) (hbt : ∀ i, i < n → ∃ b, b < 128 ∧ sA S ab (fr + i) = nI b) (hno : ∀ p, p < nn → ¬ r_same S g0 g1 ab fr n p) (e17 : ∀ q, sL S' 17 q = sL S 17 q ∧ sL S' 18 q = sL S 18 q) : NMv β S' V W z (nn + 1) h0 h1 h3 h4 h5 := by
  obtain ⟨n1, n2, n3, n4, n5, n6⟩ := h
  obtain ⟨k0, k0n, k1, k1n, k3, k3n, k4, k5⟩ := hk
  have old := fun r (hr : r < nn) => rn_eq (S' := S') (h0 := h0) (h1 := h1) (n1 r hr) (k1 r hr) (fun i hi => k0 r i hr hi)
  have new : rnOk S' h0 h1 nn := ⟨n, hn1, hn12, k1n, fun i hi => by
    obtain ⟨b, hb, e⟩ := hbt i hi
    exact ⟨b, hb, by rw [k0n i hi]; exact e⟩⟩
  have hnr : ∀ q r, r < nn → (nrel S' h0 h1 q r ↔ nrel S g0 g1 q r) := fun q r hr => by
    unfold nrel c_is
    rw [(old r hr).1, (old r hr).2.1, (e17 q).1, (e17 q).2]
  -- the new one is none of the old ones
  have hne : ∀ r, r < nn → rnH S' h0 h1 nn = rnH S' h0 h1 r → rnL S' h0 h1 nn = rnL S' h0 h1 r → False := by
    intro r hr eH eL
    obtain ⟨m, m1, m2, hm, hb⟩ := n1 r hr
    rw [(old r hr).1] at eH
    rw [(old r hr).2.1] at eL
    unfold rnH at eH
    unfold rnL at eL
    rw [k1n, hm, gN_nI (by omega), gN_nI (by omega)] at eH eL
    have f1 : ∀ i, i < n → rnm S' h0 nn i < 256 := fun i hi => by
      obtain ⟨b, hb, e⟩ := hbt i hi
      unfold rnm
      rw [k0n i hi, e, gN_nI (by omega)]
      omega
    have f2 : ∀ i, i < m → rnm S g0 r i < 256 := fun i hi => by
      obtain ⟨b, hb1, e⟩ := hb i hi
      unfold rnm
      rw [e, gN_nI (by omega)]
      omega
    obtain ⟨emn, ef⟩ := e_inj (by omega) (by omega) f1 f2 eH eL
    subst emn
    refine hno r hr ⟨hm, fun i hi => ?_⟩
    have := ef i hi
    obtain ⟨b, hb1, e⟩ := hb i hi
    obtain ⟨b', hb1', e'⟩ := hbt i hi
    unfold rnm at this
    rw [k0n i hi, e, e', gN_nI (by omega), gN_nI (by omega)] at this
    rw [e, e', this]
  refine ⟨fun r hr => ?_, fun r s hr hs eH eL => ?_, fun r q hr hq hnrq => ?_, fun r hr hn => ?_, fun q hq hn => ?_, fun q h1 h2 => ?_⟩
  · by_cases e : r = nn
    · rw [e]; exact new
    · exact (old r (by omega)).2.2
  · by_cases er : r = nn
    · by_cases es : s = nn
      · rw [er, es]
      · subst er
        exact absurd eL (fun eL => hne s (by omega) eH eL)
    · by_cases es : s = nn
      · subst es
        exact absurd eL (fun eL => hne r (by omega) eH.symm eL.symm)
      · rw [(old r (by omega)).1, (old s (by omega)).1] at eH
        rw [(old r (by omega)).2.1, (old s (by omega)).2.1] at eL
        exact n2 r s (by omega) (by omega) eH eL
  · by_cases e : r = nn
    · subst e
      rw [k3n]
      have u := n5 q hq (fun p hp hpq => hne p hp (hnrq.1.symm.trans ((hnr q p hp).mpr hpq).1) (hnrq.2.symm.trans ((hnr q p hp).mpr hpq).2))
      rw [u.1, u.2]
      exact Or.inl ⟨rfl, rfl, rfl⟩
    · rw [k3 r (by omega), k4 r (by omega), k5 r (by omega)]
      exact n3 r q (by omega) hq ((hnr q r (by omega)).mp hnrq)
  · by_cases e : r = nn
    · rw [e]; exact k3n
    · rw [k3 r (by omega)]
      exact n4 r (by omega) (fun q hq hqr => hn q hq ((hnr q r (by omega)).mpr hqr))
  · exact n5 q hq (fun r hr hqr => hn r (by omega) ((hnr q r hr).mpr hqr))
  · exact n6 q h1 h2
/-- the bytes at a place are the r-th name: as bytes, or as a string -/
theorem same_enc {S : cS} {g0 g1 ab fr n r : Nat} {f : Nat → Nat} (ho : rnOk S g0 g1 r) (hn12 : n ≤ 12) (hf : ∀ i, i < n → f i < 128 ∧ sA S ab (fr + i) = nI (f i)) : r_same S g0 g1 ab fr n r ↔ rnH S g0 g1 r = e_H f n ∧ rnL S g0 g1 r = e_L f n := by
  obtain ⟨m, m1, m2, hm, hb⟩ := ho
  unfold rnH rnL
  rw [hm, gN_nI (by omega)]
  constructor
  · rintro ⟨h1, h2⟩
    rw [hm] at h1
    have emn : m = n := by
      have := congrArg gN h1
      rw [gN_nI (by omega), gN_nI (by omega)] at this
      exact this
    subst emn
    have e : ∀ i, i < m → rnm S g0 r i = f i := fun i hi => by
      unfold rnm
      rw [h2 i hi, (hf i hi).2, gN_nI (by have := (hf i hi).1; omega)]
    exact ⟨e_H_congr e, e_L_congr e⟩
  · rintro ⟨h1, h2⟩
    have f2 : ∀ i, i < m → rnm S g0 r i < 256 := fun i hi => by
      obtain ⟨b, hb1, e⟩ := hb i hi
      unfold rnm
      rw [e, gN_nI (by omega)]
      omega
    obtain ⟨emn, ef⟩ := e_inj (by omega) (by omega) f2 (fun i hi => by have := (hf i hi).1; omega) h1 h2
    subst emn
    refine ⟨hm, fun i hi => ?_⟩
    obtain ⟨b, hb1, e⟩ := hb i hi
    have := ef i hi
    unfold rnm at this
    rw [e, gN_nI (by omega)] at this
    rw [e, (hf i hi).2, this]
/-- a value is bound in both -/
theorem NM_set {β : Nat → Nat} {S S' : cS} {V W V' W' : Nat → Int64} {z nn g0 g1 g3 g4 g5 q r : Nat} {hi lo a : Int64} {kd : Int32} (h : NMv β S V W z nn g0 g1 g3 g4 g5) (hq : q < z) (hr : r < nn) (hqr : nrel S g0 g1 q r) (hdist : ∀ i k, i < z → k < z → sL S 17 i = sL S 17 k → sL S 18 i = sL S 18 k → i = k) (hv : vrel β hi lo kd a (sL S g5 r)) (e0 : sA S' g0 = sA S g0) (e1 : sA S' g1 = sA S g1) (e3 : ∀ i, sA S' g3 i = if i = r then kd else sA S g3 i) (e4 : ∀ i, sL S' g4 i = if i = r then a else sL S g4 i) (e5 : sL S' g5 = sL S g5) (e17 : sL S' 17 = sL S 17) (e18 : sL S' 18 = sL S 18) (e21 : ∀ i, V' i = if i = q then hi else V i) (e22 : ∀ i, W' i = if i = q then lo else W i) (hz : z ≤ 4096) : NMv β S' V' W' z nn g0 g1 g3 g4 g5 := by
  obtain ⟨n1, n2, n3, n4, n5, n6⟩ := h
  have hH : ∀ r, rnH S' g0 g1 r = rnH S g0 g1 r := fun r => by unfold rnH rnm; rw [e0, e1]
  have hL : ∀ r, rnL S' g0 g1 r = rnL S g0 g1 r := fun r => by unfold rnL rnm; rw [e0, e1]
  have hn : ∀ q r, nrel S' g0 g1 q r ↔ nrel S g0 g1 q r := fun q r => by
    unfold nrel c_is
    rw [hH, hL, e17, e18]
  refine ⟨fun r hr => ?_, fun r s hr hs => ?_, fun s p hs hp hnr => ?_, fun s hs hno => ?_, fun p hp hno => ?_, fun p h1 h2 => ?_⟩
  · unfold rnOk; rw [e0, e1]; exact n1 r hr
  · rw [hH, hH, hL, hL]; exact n2 r s hr hs
  · rw [hn] at hnr
    rw [e21, e22, e3, e4, e5]
    by_cases ep : p = q
    · have es : s = r := n2 s r hs hr (by rw [← hnr.1, ← hqr.1, ep]) (by rw [← hnr.2, ← hqr.2, ep])
      rw [if_pos ep, if_pos ep, if_pos es, if_pos es, es]
      exact hv
    · have es : s ≠ r := fun es => ep (hdist p q hp hq (by rw [hnr.1, hqr.1, es]) (by rw [hnr.2, hqr.2, es]))
      rw [if_neg ep, if_neg ep, if_neg es, if_neg es]
      exact n3 s p hs hp hnr
  · have es : s ≠ r := fun es => hno q hq (by rw [hn, es]; exact hqr)
    rw [e3, if_neg es]
    exact n4 s hs (fun p hp hpr => hno p hp ((hn p s).mpr hpr))
  · have ep : p ≠ q := fun ep => hno r hr (by rw [hn, ep]; exact hqr)
    rw [e21, e22, if_neg ep, if_neg ep]
    exact n5 p hp (fun r hr hpr => hno r hr ((hn p r).mpr hpr))
  · rw [e21, e22, if_neg (by omega), if_neg (by omega)]
    exact n6 p h1 h2
