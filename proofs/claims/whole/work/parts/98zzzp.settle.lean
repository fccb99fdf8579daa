/-! NAMES GET THEIR PLACES in the class: settle -/
def plA : Option (Nat × Nat) → Int32
  | none => Int32.ofInt (-1)
  | some x => nI x.1
def plB (q : Nat) : Option (Nat × Nat) → Int32
  | none => nI q
  | some x => nI x.2
/-- what the words of a step say in the end: a name within a function by its place -/
def oF (sc : SCs) (β : Nat → Nat) (n : Nat) (S : cS) (z c fb a : Nat) (o : Op) : Prop :=
  if fxO o = 1 then sA S 24 a = nI (tgC o.1) ∧ ∃ q, q < z ∧ qn β n S (o.2.1.headD 0) q ∧ (o.1 = 21 → sA S 24 (a + 3) = nI (bi q)) ∧ sA S 24 (a + 1) = plA (plc (Eb β n) sc (o.2.1.getD 1 0) (o.2.1.headD 0) 300 (o.2.1.getD 1 0) 0) ∧ sA S 24 (a + 2) = plB q (plc (Eb β n) sc (o.2.1.getD 1 0) (o.2.1.headD 0) 300 (o.2.1.getD 1 0) 0)
  else oC β n S z c fb a o
def lsF (sc : SCs) (β : Nat → Nat) (n : Nat) (S : cS) (z c fb : Nat) : Nat → List Op → Prop
  | _, [] => True
  | a, o :: r => oF sc β n S z c fb a o ∧ lsF sc β n S z c fb (a + lC o) r
theorem oF_mono {sc : SCs} {β : Nat → Nat} {n : Nat} {S S1 : cS} {z c z1 c1 fb a hi : Nat} {o : Op} (hs : sameW S S1 z c z1 c1 a hi) (hh : a + lC o ≤ hi) (h : oF sc β n S z c fb a o) : oF sc β n S1 z1 c1 fb a o := by
  unfold oF at h ⊢
  by_cases hf : fxO o = 1
  · rw [if_pos hf] at h ⊢
    obtain ⟨h1, q, h2, h3, h4, h5, h6⟩ := h
    obtain ⟨s1, s2, s3, s4, s5⟩ := hs
    have hl := fxO_l hf
    refine ⟨by rw [s3 a (Nat.le_refl _) (by omega)]; exact h1, q, by omega, qn_mono h2 s5 h3, fun e => ?_, by rw [s3 _ (by omega) (by omega)]; exact h5, by rw [s3 _ (by omega) (by omega)]; exact h6⟩
    have := lC_21 e
    rw [s3 _ (by omega) (by omega)]
    exact h4 e
  · rw [if_neg hf] at h ⊢
    exact oC_mono hs hh h
theorem plS_F (p : Nat) (T : cS) (x : Option (Nat × Nat)) : FrT [] [] [24] [] T (plS p T x) := by
  cases x with
  | none => exact FrT.refl _ _ _ _ _
  | some x => exact FrT_wA (by decide) (FrT_wA (by decide) (FrT.refl _ _ _ _ _))
theorem plS_o {p : Nat} {T : cS} {x : Option (Nat × Nat)} {i : Nat} (h1 : i ≠ p + 1) (h2 : i ≠ p + 2) : sA (plS p T x) 24 i = sA T 24 i := by
  cases x with
  | none => rfl
  | some x =>
    show upd (upd (sA T 24) (p + 1) _) (p + 2) _ i = _
    rw [upd_at, upd_at, if_neg h2, if_neg h1]
section
variable {d : Nat}
theorem fix_T {β : Nat → Nat} {n fb a0 kn q s0 z p top : Nat} {sc : SCs} {S T : cS} (hS : yS β n fb a0 sc S) (hW : scW (Eb β n) sc) (hN : c_NT S z) (hq : nmR β n S kn (nI q)) (hqM : q < 4096) (h300 : sc.1.length ≤ 300) (h1600 : sc.2.length ≤ 1600) (hA : ∀ x, x ∈ [33, 35, 36, 38, 40] → sA T x = sA S x) (h39 : ∀ e, e < sc.2.length → sKd sc.2 e ≠ 2 → sA T 39 e = nI (slC sc.2 e (sF sc.2 e))) (h7 : sI T 2307 = nI top) (hp : p + 2 < top) (htop : top ≤ 40960) (hs0 : s0 < sc.1.length) (h24 : sA T 24 (p + 2) = nI q) : Ans (d + 11) 125 [.ref 32, .int (nI p), .int (nI s0)] T none (plS p T (plc (Eb β n) sc s0 kn 300 s0 0)) := by
  have hat := at_T (d := d + 9) (q := p + 2) h7 hp htop
  rw [h24] at hat
  exact Ans.of (by rw [ml_125]; exact Nat.le_of_ble_eq_true rfl) (Bod.lv (by rfl) (cFx0_1 (d := d + 2) (a := q) (by omega) (by omega) (by omega) hat (fun lv1 r0 r1 r2 r3 r4 r5 => fxp_L hS hW hN hq hqM h300 h1600 hA h39 h7 hp htop (by omega) 300 0 s0 (by omega) hs0 lv1 r0 r1 r2 r3 r4 r5)))
theorem seB_L {β : Nat → Nat} {n fb a0 z c top tot : Nat} {sc : SCs} {S : cS} (hS : yS β n fb a0 sc S) (hW : scW (Eb β n) sc) (hN : c_NT S z) (hz : sI S 1607 = nI z) (hzM : z ≤ 4096) (h300 : sc.1.length ≤ 300) (h1600 : sc.2.length ≤ 1600) (htop : top ≤ 40960) (htot : tot ≤ 1600) : ∀ (os : List Op) (a j : Nat) (T : cS), FrT [] [] [24, 29, 39] [] S T → (∀ e, e < sc.2.length → sKd sc.2 e ≠ 2 → sA T 39 e = nI (slC sc.2 e (sF sc.2 e))) → sI S 2307 = nI top → sI S 3214 = nI tot → lsC β n T z c fb a os → fxS T j a os → a + wC os ≤ top → j + fxM os = tot → (∀ o, o ∈ os → fxO o = 1 → o.2.1.getD 1 0 < sc.1.length) → ∃ T1, FrT [] [] [24] [] T T1 ∧ (∀ i, i < a → sA T1 24 i = sA T 24 i) ∧ (∀ i, a + wC os ≤ i → sA T1 24 i = sA T 24 i) ∧ lsF sc β n T1 z c fb a os ∧ ∀ lv : sm_L, sm_get lv 0 = some (.ref 32) → sm_get lv 1 = some (.int (nI j)) → Bod (d + 11) 123 72 lv [] T none T1 := by
  intro os
  induction os with
  | nil =>
    intro a j T hT h39 h7 h14 hC hf ha hj hs
    have e : fxM [] = 0 := rfl
    exact ⟨T, FrT.refl _ _ _ _ _, fun _ _ => rfl, fun _ _ => rfl, trivial, fun lv q0 q1 => cSeB_1 (d := d + 3) q0 q1 (by omega) ((hT.1 _ (fun h => by cases h)).trans h14) (by omega) (by omega)⟩
  | cons o r ih =>
    intro a j T hT h39 h7 h14 hC hf ha hj hs
    have e1 : fxM (o :: r) = fxO o + fxM r := rfl
    have e2 : wC (o :: r) = lC o + wC r := rfl
    have e3 := fxO_le o
    by_cases h1 : fxO o = 1
    · have hl := fxO_l h1
      obtain ⟨f1, f2⟩ := hf.1 h1
      have hso := hs o List.mem_cons_self h1
      have h18 : 18 ≤ o.1 ∧ o.1 ≤ 21 := by
        unfold fxO at h1
        split at h1
        · rename_i hc; exact ⟨hc.1, hc.2.1⟩
        · cases h1
      obtain ⟨g1, q, g2, g3, g4, g5⟩ := hC.1.2.2.1 h18
      have g0 := hC.1.1 (by omega)
      have hL : ∀ x, sL T x = sL S x := fun x => hT.2.2.2.1 x (fun h => by cases h)
      have hqS : nmR β n S (o.2.1.headD 0) (nI q) := ⟨q, z, rfl, Nat.zero_le _, g2, hz, hzM, qn_mono (S := T) g2 (fun i _ => by rw [hL, hL]; exact ⟨rfl, rfl⟩) g3⟩
      have hfix := fix_T (d := d) (T := T) (p := a) (s0 := o.2.1.getD 1 0) hS hW hN hqS (by omega) h300 h1600 (fun x hx => hT.2.2.1 x (by
        have : ∀ x, x ∈ [33, 35, 36, 38, 40] → x ∉ [24, 29, 39] := by decide
        exact this x hx)) h39 ((hT.1 _ (fun h => by cases h)).trans h7) (by omega) htop hso g4
      have hpF := plS_F a T (plc (Eb β n) sc (o.2.1.getD 1 0) (o.2.1.headD 0) 300 (o.2.1.getD 1 0) 0)
      have hpo : ∀ i, i ≠ a + 1 → i ≠ a + 2 → sA (plS a T (plc (Eb β n) sc (o.2.1.getD 1 0) (o.2.1.headD 0) 300 (o.2.1.getD 1 0) 0)) 24 i = sA T 24 i := fun i i1 i2 => plS_o i1 i2
      have hp1 : sA (plS a T (plc (Eb β n) sc (o.2.1.getD 1 0) (o.2.1.headD 0) 300 (o.2.1.getD 1 0) 0)) 24 (a + 1) = plA (plc (Eb β n) sc (o.2.1.getD 1 0) (o.2.1.headD 0) 300 (o.2.1.getD 1 0) 0) ∧ sA (plS a T (plc (Eb β n) sc (o.2.1.getD 1 0) (o.2.1.headD 0) 300 (o.2.1.getD 1 0) 0)) 24 (a + 2) = plB q (plc (Eb β n) sc (o.2.1.getD 1 0) (o.2.1.headD 0) 300 (o.2.1.getD 1 0) 0) := by
        cases plc (Eb β n) sc (o.2.1.getD 1 0) (o.2.1.headD 0) 300 (o.2.1.getD 1 0) 0 with
        | none => exact ⟨g1, g4⟩
        | some x =>
          constructor
          · show upd (upd (sA T 24) (a + 1) _) (a + 2) _ (a + 1) = nI x.1
            rw [upd_at, upd_at, if_neg (by omega), if_pos rfl]
          · show upd (upd (sA T 24) (a + 1) _) (a + 2) _ (a + 2) = nI x.2
            rw [upd_at, if_pos rfl]
      have e41 : sA T 41 j = nI a := f1
      have e42 : sA T 42 j = nI (o.2.1.getD 1 0) := f2
      generalize hT2 : plS a T (plc (Eb β n) sc (o.2.1.getD 1 0) (o.2.1.headD 0) 300 (o.2.1.getD 1 0) 0) = T2 at hfix hpF hpo hp1
      have hL2 : ∀ x, sL T2 x = sL T x := fun x => hpF.2.2.2.1 x (fun h => by cases h)
      obtain ⟨T1, i1, i2, i3, i4, i5⟩ := ih (a + lC o) (j + 1) T2 (hT.trans (hpF.mono (fun _ h => h) (fun _ h => h) (by decide) (fun _ h => h))) (fun e he hk => by rw [hpF.2.2.1 39 (by decide)]; exact h39 e he hk) h7 h14 (lsC_mono (S := T) r (a + lC o) (hi := a + lC o + wC r) ⟨Nat.le_refl _, Nat.le_refl _, fun i i1 i2 => hpo i (by omega) (by omega), fun i _ => by rw [hL2, hL2]; exact ⟨rfl, rfl⟩, fun i _ => by rw [hL2, hL2]; exact ⟨rfl, rfl⟩⟩ (Nat.le_refl _) hC.2) (by
        have := hf.2
        rw [h1] at this
        exact fxS_mono (S := T) (S1 := T2) (hi := j + 1 + fxM r) r _ _ (fun i _ => by rw [hpF.2.2.1 41 (by decide), hpF.2.2.1 42 (by decide)]; exact ⟨rfl, rfl⟩) (Nat.le_refl _) this) (by omega) (by omega) (fun o ho => hs o (List.mem_cons_of_mem _ ho))
      have hL1 : ∀ x, sL T1 x = sL T2 x := fun x => i1.2.2.2.1 x (fun h => by cases h)
      refine ⟨T1, hpF.trans i1, fun i hi => ?_, fun i hi => ?_, ⟨?_, i4⟩, fun lv q0 q1 => cSeB_3 (d := d + 3) (e42 := o.2.1.getD 1 0) (e41 := a) q0 q1 (by omega) ((hT.1 _ (fun h => by cases h)).trans h14) (by omega) (by omega) (by omega) e41 (by omega) e42 (by omega) hfix (fun lv1 r0 r1 => i5 lv1 r0 r1)⟩
      · rw [i2 i (by omega), hpo i (by omega) (by omega)]
      · rw [i3 i (by omega), hpo i (by omega) (by omega)]
      · unfold oF
        rw [if_pos h1]
        refine ⟨by rw [i2 a (by omega), hpo a (by omega) (by omega)]; exact g0, q, g2, qn_mono (S := T) g2 (fun i _ => by rw [hL1, hL1, hL2, hL2]; exact ⟨rfl, rfl⟩) g3, fun e => ?_, by rw [i2 _ (by omega)]; exact hp1.1, by rw [i2 _ (by omega)]; exact hp1.2⟩
        have := lC_21 e
        rw [i2 _ (by omega), hpo _ (by omega) (by omega)]
        exact g5 e
    · have h0 : fxO o = 0 := by omega
      obtain ⟨T1, i1, i2, i3, i4, i5⟩ := ih (a + lC o) j T hT h39 h7 h14 hC.2 (by have := hf.2; rw [h0] at this; exact this) (by omega) (by omega) (fun o ho => hs o (List.mem_cons_of_mem _ ho))
      have hL1 : ∀ x, sL T1 x = sL T x := fun x => i1.2.2.2.1 x (fun h => by cases h)
      refine ⟨T1, i1, fun i hi => i2 i (by omega), fun i hi => i3 i (by omega), ⟨?_, i4⟩, i5⟩
      unfold oF
      rw [if_neg h1]
      exact oC_mono (hi := a + lC o) ⟨Nat.le_refl _, Nat.le_refl _, fun i _ i2' => i2 i i2', fun i _ => by rw [hL1, hL1]; exact ⟨rfl, rfl⟩, fun i _ => by rw [hL1, hL1]; exact ⟨rfl, rfl⟩⟩ (Nat.le_refl _) hC.1
end
