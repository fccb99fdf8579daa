
/-! THE CLASS'S NAMES: a name is given a value -/
section
variable {d t k o x : Nat} {S : cS} {g : Nat → Nat} {hi lo : Int64}
theorem massign_T (h : mHS 0 g t S) (hR : rwL S) (hk : k < 4096) (ho : c_obj hi lo = nI o) (ho2 : o ≤ 1500) (hol : o = 0 ∨ lv S o) : ∃ X W D, Ans (d + 4) 173 [.ref 16, .int (nI k), .long hi, .long lo] S none W ∧ mHS 0 g t W ∧ rwL W ∧ CFm S W ∧ KX D X W ∧ FrL [1608] [5] [21, 22] S X ∧ sL W = sL X ∧ sL X 21 = vp_updL (sL S 21) k hi ∧ sL X 22 = vp_updL (sL S 22) k lo ∧ (∀ j, 1 ≤ j → j ≤ 1500 → obE S X j) ∧ (∀ q, q ∈ D → g q = 0 ∧ stE t S q = 0 ∧ nmE W q = 0) := by
  obtain ⟨hP, hD, hT, hM, hL, hN, hG, hB, hg⟩ := h
  obtain ⟨W, X, K, hA, hP2, hD2, hFX, hK, l21, l22, hB2, hKz⟩ := assign_step (d := d) (e6 := fun k => stE t S k + g k) hP (fun q q1 q2 q3 => by
    have := hD q ⟨q1, q2, q3⟩ (by omega)
    show 0 < heldBy S q + 0 + nmE S q + (stE t S q + g q)
    omega) hk hB ho ho2 hol (hN k hk)
  have hok : ∀ k, 1 ≤ k → k ≤ 1500 → h_ok S k := hP.1
  have h3 : ∀ a, a ∈ [21, 22] → 1 ≤ a ∧ a < 108 := by decide
  have e3 : sA X 3 = sA S 3 := hFX.A (by decide)
  have hob : ∀ j, 1 ≤ j → j ≤ 1500 → obE S X j := fun j j1 j2 => by
    obtain ⟨r1, r2⟩ := FrL_row hFX h3 (hok j j1 j2)
    exact obE_of (by rw [e3]) (by rw [hFX.A (by decide)]) (by rw [hFX.A (by decide)]) (by rw [hFX.A (by decide)]) (by rw [hFX.A (by decide)]) r1 r2
  have hokX : ∀ j, 1 ≤ j → j ≤ 1500 → h_ok X j := fun j j1 j2 => by
    obtain ⟨kd', z', x', y', b1, b2, b3, b4, b5, b6, b7, b8, b9, b10, b11⟩ := hok j j1 j2
    refine ⟨kd', z', x', y', b1, by rw [e3]; exact b2, by rw [hFX.A (by decide)]; exact b3, by rw [hFX.A (by decide)]; exact b4, by rw [hFX.A (by decide)]; exact b5, b6, b7, b8, b9, by rw [hFX.2.2.2.1]; exact b10, ?_⟩
    rw [hFX.2.2.2.1, hFX.2.2.2.2.1]
    intro b hb
    obtain ⟨N, m1, m2⟩ := b11 b hb
    have hba : b ∉ [21, 22] := fun c => by have := h3 b c; omega
    rw [hFX.2.1 b hba]
    exact ⟨N, m1, m2⟩
  have hKX : KX K X W := KX_Kill (FrL.refl _ _ _ _) hokX hK
  have eL : sL W = sL X := hK.1.2.1
  have hlvX : ∀ q, lv X q ↔ lv S q := fun q => by unfold lv; rw [e3]
  have hlv : ∀ q, lv W q ↔ lv S q ∧ q ∉ K := fun q => (lv_KX hKX q).trans (and_congr_left' (hlvX q))
  have eS : stE t W = stE t S := stE_L (fun i _ => by rw [eL, hFX.2.1 47 (by decide), hFX.2.1 48 (by decide)]; exact ⟨rfl, rfl⟩)
  have hCX : CFm S X := CFm_FrL hFX (by decide) (by decide) (by decide)
  have hRW : rwL W := rwL_FrL hKX.1 (rwL_FrL hFX hR)
  refine ⟨X, W, K, hA, ⟨by rw [eS]; exact hP2, fun q hq _ => ?_, ?_, hM, ?_, ?_, fun q hq => ?_, hB2, hg⟩, hRW, hCX.trans (CFm_KX hKX), hKX, hFX, eL, by rw [← eL]; exact l21, by rw [← eL]; exact l22, hob, fun q hq => ?_⟩
  · have := hD2 q hq.1 hq.2.1 hq.2.2
    rw [eS]
    have e : no_e q = 0 := rfl
    rw [e] at this
    omega
  · rw [hK.1.I (by decide), hFX.I (by decide)]
    exact hT
  · intro i hi
    obtain ⟨q, q1, q2, q3⟩ := hL i hi
    refine ⟨q, q1, by rw [eL, hFX.2.1 47 (by decide), hFX.2.1 48 (by decide)]; exact q2, q3.imp id (fun h => (hlv q).mpr ⟨h, fun hm => ?_⟩)⟩
    have h1 := (hKz q hm).2
    have h2 := stE_pos hi (ob_n q2 q1)
    have h3 : stE t S q + g q = 0 := h1
    omega
  · intro i hi
    have hnm : ∀ q, q ≤ 1500 → c_obj (sL W 21 i) (sL W 22 i) = nI q → q ∉ K := fun q q1 q2 hm => by
      have h1 := (hKz q hm).1
      have h2 := sumN_pos (f := fun i => if ob (sL W 21 i) (sL W 22 i) = q then 1 else 0) (k := i) (n := 4096) hi
      rw [if_pos (ob_n q2 q1)] at h2
      have h3 : 0 < nmE W q := h2
      omega
    by_cases e : i = k
    · subst e
      have hw : c_obj (sL W 21 i) (sL W 22 i) = nI o := by
        rw [l21, l22]
        unfold vp_updL
        rw [if_pos rfl, if_pos rfl]
        exact ho
      exact ⟨o, ho2, hw, hol.imp id (fun h => (hlv o).mpr ⟨h, hnm o ho2 hw⟩)⟩
    · obtain ⟨q, q1, q2, q3⟩ := hN i hi
      have hw : c_obj (sL W 21 i) (sL W 22 i) = nI q := by
        rw [l21, l22]
        unfold vp_updL
        rw [if_neg e, if_neg e]
        exact q2
      exact ⟨q, q1, hw, q3.imp id (fun h => (hlv q).mpr ⟨h, hnm q q1 hw⟩)⟩
  · refine (hlv q).mpr ⟨hG q hq, fun hm => ?_⟩
    have h3 : stE t S q + g q = 0 := (hKz q hm).2
    omega
  · have h3 : stE t S q + g q = 0 := (hKz q hq).2
    exact ⟨by omega, by omega, (hKz q hq).1⟩
end
