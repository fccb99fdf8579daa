/-! NAMES GET THEIR PLACES in the class: how many locals a scope has, which one a name is -/
/-- the entries of scope x among the first i that are locals -/
def slC (l : List (Nat × Nat × Nat)) : Nat → Nat → Nat
  | 0, _ => 0
  | i + 1, x => slC l i x + if sF l i = x ∧ sKd l i ≠ 2 then 1 else 0
theorem slC_le (l : List (Nat × Nat × Nat)) (x : Nat) : ∀ i, slC l i x ≤ i := by
  intro i
  induction i with
  | zero => exact Nat.le_refl _
  | succ i ih =>
    show slC l i x + (if _ then 1 else 0) ≤ i + 1
    split <;> omega
/-- the first i entries are settled -/
def sSE (fb : Nat) (sc : SCs) (i : Nat) (S : cS) : Prop := sI S 3213 = nI sc.2.length ∧ (∀ e, e < sc.2.length → sA S 37 e = nI (sF sc.2 e) ∧ sA S 38 e = nI (sKd sc.2 e)) ∧ (∀ x, 1 ≤ x → x < sc.1.length → sA S 34 x = nI (fb + x - 1) ∧ sA S 29 (fb + x - 1) = nI (slC sc.2 i x)) ∧ ∀ e, e < i → sKd sc.2 e ≠ 2 → sA S 39 e = nI (slC sc.2 e (sF sc.2 e))
theorem sSE_0 {β : Nat → Nat} {n fb a0 : Nat} {sc : SCs} {S : cS} (h : yS β n fb a0 sc S) (he : sI S 3213 = nI sc.2.length) : sSE fb sc 0 S :=
  ⟨he, fun e h1 => ⟨(h.2 e h1).2.1, (h.2 e h1).2.2.1⟩, fun x h1 h2 => ⟨(h.1 x h1 h2).2.1, (h.1 x h1 h2).2.2.2.2.1⟩, fun e h1 => absurd h1 (Nat.not_lt_zero _)⟩
section
variable {d : Nat}
theorem seA_L {fb : Nat} {sc : SCs} (hw : ∀ e, e < sc.2.length → (1 ≤ sF sc.2 e ∧ sF sc.2 e < sc.1.length) ∧ sKd sc.2 e ≤ 2) (h1600 : sc.2.length ≤ 1600) (h300 : sc.1.length ≤ 300) (h901 : fb + sc.1.length ≤ 901) : ∀ (m i : Nat) (S : cS), m + i = sc.2.length → sSE fb sc i S → ∃ S1, FrT [] [] [29, 39] [] S S1 ∧ (∀ x, x < fb → sA S1 29 x = sA S 29 x) ∧ sSE fb sc sc.2.length S1 ∧ ∀ (v : Option Value) (Sf : cS), (∀ lv : sm_L, sm_get lv 0 = some (.ref 32) → sm_get lv 1 = some (.int (nI 0)) → Bod (d + 10) 123 72 lv [] S1 v Sf) → ∀ lv : sm_L, sm_get lv 0 = some (.ref 32) → sm_get lv 1 = some (.int (nI i)) → Bod (d + 10) 123 2 lv [] S v Sf := by
  intro m
  induction m with
  | zero =>
    intro i S hm h
    obtain rfl : i = sc.2.length := by omega
    exact ⟨S, FrT.refl _ _ _ _ _, fun _ _ => rfl, h, fun v Sf hB lv q0 q1 => cSeA_1 (d := d + 2) q0 q1 (by omega) h.1 (by omega) (Nat.le_refl _) hB⟩
  | succ m ih =>
    intro i S hm h
    obtain ⟨s1, s2, s3, s4⟩ := h
    have hi : i < sc.2.length := by omega
    obtain ⟨⟨w1, w2⟩, w3⟩ := hw i hi
    obtain ⟨t1, t2⟩ := s2 i hi
    by_cases hk : sKd sc.2 i = 2
    · have e0 : ∀ x, slC sc.2 (i + 1) x = slC sc.2 i x := fun x => by
        show slC sc.2 i x + (if _ then 1 else 0) = _
        rw [if_neg (fun hc => hc.2 hk)]
        exact Nat.add_zero _
      obtain ⟨S1, i1, i2, i3, i4⟩ := ih (i + 1) S (by omega) ⟨s1, s2, fun x h1 h2 => by rw [e0]; exact s3 x h1 h2, fun e he hn => by
        by_cases hei : e = i
        · subst hei; exact absurd hk hn
        · exact s4 e (by omega) hn⟩
      exact ⟨S1, i1, i2, i3, fun v Sf hB lv q0 q1 => cSeA_3 (d := d + 2) q0 q1 (by omega) s1 (by omega) hi (by omega) t1 (by omega) t2 (by omega) hk (i4 v Sf hB)⟩
    · obtain ⟨u1, u2⟩ := s3 _ w1 w2
      have hsl := slC_le sc.2 (sF sc.2 i) i
      have hadd : Ans (d + 10) 124 [.ref 23, .int (nI (fb + sF sc.2 i - 1))] S (some (.int (nI (slC sc.2 i (sF sc.2 i))))) (wA 29 (fb + sF sc.2 i - 1) (nI (slC sc.2 i (sF sc.2 i) + 1)) S) := Ans.of (by rw [ml_124]; exact Nat.le_of_ble_eq_true rfl) (Bod.lv (by rfl) (cAdl_1 (d := d + 1) (by omega) (by omega) (isFunction_T (d := d + 8) (by omega)) u2 (by omega) (by omega)))
      have hF : FrT [] [] [29, 39] [] S (wA 39 i (nI (slC sc.2 i (sF sc.2 i))) (wA 29 (fb + sF sc.2 i - 1) (nI (slC sc.2 i (sF sc.2 i) + 1)) S)) := FrT_wA (by decide) (FrT_wA (by decide) (FrT.refl _ _ _ _ _))
      have h29 : sA (wA 39 i (nI (slC sc.2 i (sF sc.2 i))) (wA 29 (fb + sF sc.2 i - 1) (nI (slC sc.2 i (sF sc.2 i) + 1)) S)) 29 = upd (sA S 29) (fb + sF sc.2 i - 1) (nI (slC sc.2 i (sF sc.2 i) + 1)) := rfl
      have h39 : sA (wA 39 i (nI (slC sc.2 i (sF sc.2 i))) (wA 29 (fb + sF sc.2 i - 1) (nI (slC sc.2 i (sF sc.2 i) + 1)) S)) 39 = upd (sA S 39) i (nI (slC sc.2 i (sF sc.2 i))) := rfl
      generalize hS1 : wA 39 i (nI (slC sc.2 i (sF sc.2 i))) (wA 29 (fb + sF sc.2 i - 1) (nI (slC sc.2 i (sF sc.2 i) + 1)) S) = S1 at hF h29 h39
      have hE : sSE fb sc (i + 1) S1 := by
        refine ⟨(hF.1 _ (by decide)).trans s1, fun e he => by rw [hF.2.2.1 37 (by decide), hF.2.2.1 38 (by decide)]; exact s2 e he, fun x h1 h2 => ⟨by rw [hF.2.2.1 34 (by decide)]; exact (s3 x h1 h2).1, ?_⟩, fun e he hn => ?_⟩
        · rw [h29, upd_at]
          show _ = nI (slC sc.2 i x + (if sF sc.2 i = x ∧ sKd sc.2 i ≠ 2 then 1 else 0))
          by_cases hx : sF sc.2 i = x
          · subst hx
            rw [if_pos rfl, if_pos ⟨rfl, hk⟩]
          · rw [if_neg (by omega), if_neg (fun hc => hx hc.1)]
            exact (s3 x h1 h2).2
        · rw [h39, upd_at]
          by_cases hei : e = i
          · subst hei; rw [if_pos rfl]
          · rw [if_neg hei]
            exact s4 e (by omega) hn
      obtain ⟨S2, i1, i2, i3, i4⟩ := ih (i + 1) S1 (by omega) hE
      refine ⟨S2, hF.trans i1, fun x hx => ?_, i3, fun v Sf hB lv q0 q1 => cSeA_5 (d := d + 2) q0 q1 (by omega) s1 (by omega) hi (by omega) t1 (by omega) t2 (by omega) hk (by omega) u1 (by omega) (by omega) hadd (fun lv1 r0 r1 => by rw [hS1]; exact i4 v Sf hB lv1 r0 r1)⟩
      rw [i2 x hx, h29, upd_at, if_neg (by omega)]
end
