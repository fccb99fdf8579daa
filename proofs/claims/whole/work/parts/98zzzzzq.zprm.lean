/-! STATEMENTS OF THE REFERENCE: the parameters of a function -/
/-- l parameters are told, token q is next; the function's names begin at a -/
def zPs (own0 : Nat → Nat × Nat) (m u : Nat) (S0 : cS) (H B0 c w t f b : Nat) (F a : Nat) (l : List Int32) (q : Nat) (Sb S : cS) : Prop := zE own0 m u S0 H B0 c w t f b S ∧ sI S 6115 = nI q ∧ sI S 6116 = nI 0 ∧ sI S 6123 = nI (a + l.length) ∧ (∀ i y, l[i]? = some y → sA S 74 (a + i) = y ∧ ∃ r, r < 2 ^ 20 ∧ y = nI r) ∧ (∀ i, i < a → sA S 74 i = sA Sb 74 i) ∧ (∀ i, sA S 76 i = if i = F then nI l.length else sA Sb 76 i) ∧ (∀ x, x ≠ 74 → x ≠ 76 → sA S x = sA Sb x) ∧ (∀ i, i ≠ 6115 → i ≠ 6123 → sI S i = sI Sb i) ∧ sV S = sV Sb ∧ sL S = sL Sb
/-- scope s has just the parameters l -/
def scR1 (E : Nat → Nat → Bool) (K : Nat → Nat) (V : Nat → Int32) (s : Nat) (l : List Int32) (sc : SCs) : Prop := ∀ j, K j = 3 → ((scF E sc s j = none ↔ V j ∉ l) ∧ ∀ e, scF E sc s j = some e → e.2.2 = 1)
/-- names are the same where their numbers are -/
def eqV (E : Nat → Nat → Bool) (K : Nat → Nat) (V : Nat → Int32) : Prop := ∀ i j, K i = 3 → K j = 3 → (E i j = true ↔ V i = V j)
/-- only entries of scope s are new -/
def scO (E : Nat → Nat → Bool) (s : Nat) (sc sc' : SCs) : Prop := sc'.1 = sc.1 ∧ (∀ s' j, s' ≠ s → (kp E sc' s' j ↔ kp E sc s' j)) ∧ (s < sc.1.length → wfS sc → wfS sc')
theorem scO_refl (E : Nat → Nat → Bool) (s : Nat) (sc : SCs) : scO E s sc sc := ⟨rfl, fun _ _ _ => Iff.rfl, fun _ => id⟩
theorem scO_A {E : Nat → Nat → Bool} {s k : Nat} {sc0 sc : SCs} (h : scO E s sc0 sc) : scO E s sc0 (scA s k 1 sc) := by
  obtain ⟨h1, h2, h3⟩ := h
  refine ⟨h1, fun s' j hs => Iff.trans ?_ (h2 s' j hs), fun hs hw => wfS_A (by rw [h1]; exact hs) (h3 hs hw)⟩
  unfold kp
  rw [scF_A]
  cases scF E sc s' j with
  | some e => exact Iff.rfl
  | none =>
    dsimp only
    have hb : Nat.beq s s' = false := by
      cases hb : Nat.beq s s' with
      | false => rfl
      | true => exact absurd (Nat.beq_eq.mp hb).symm hs
    rw [hb]
    exact Iff.rfl
theorem scR1_A {E : Nat → Nat → Bool} {K : Nat → Nat} {V : Nat → Int32} {s k : Nat} {l : List Int32} {sc : SCs} (hE : eqV E K V) (hk : K k = 3) (h : scR1 E K V s l sc) : scR1 E K V s (l ++ [V k]) (scA s k 1 sc) := by
  intro j hj
  obtain ⟨h1, h2⟩ := h j hj
  rw [scF_A]
  have hb : Nat.beq s s = true := Nat.beq_eq.mpr rfl
  cases hf : scF E sc s j with
  | some e =>
    dsimp only
    have hm : V j ∈ l := by
      rcases Decidable.em (V j ∈ l) with q | q
      · exact q
      · rw [h1.mpr q] at hf; cases hf
    exact ⟨⟨(fun q => by cases q), fun q => absurd (List.mem_append_left _ hm) q⟩, fun e' he' => by
      injection he' with he'
      rw [← he']
      exact h2 e hf⟩
  | none =>
    have hm : V j ∉ l := h1.mp hf
    dsimp only
    rw [hb, Bool.true_and]
    by_cases he : E k j = true
    · have hv : V k = V j := (hE k j hk hj).mp he
      rw [if_pos he]
      exact ⟨⟨(fun q => by cases q), fun q => absurd (List.mem_append_right _ (by rw [hv]; exact List.mem_singleton.mpr rfl)) q⟩, fun e' he' => by
        injection he' with he'
        rw [← he']⟩
    · rw [if_neg he]
      refine ⟨⟨fun _ q => ?_, fun _ => rfl⟩, (fun e' he' => by cases he')⟩
      rcases List.mem_append.mp q with q | q
      · exact hm q
      · exact he ((hE k j hk hj).mpr (List.mem_singleton.mp q).symm)
section
variable {β : Nat → Nat} {n : Nat} {E : Nat → Nat → Bool} {V : Nat → Int32} {own0 : Nat → Nat × Nat} {m u k1 : Nat} {S0 Sb S S1 S2 : cS} {H B0 W d c w t f b a F s : Nat} {l : List Int32}
theorem ps_loc {q r : Nat} (h : zPs own0 m u S0 H B0 c w t f b F a l q Sb S) (hF : sI Sb 6122 = nI F) (hFM : F < 15) (h75 : sA Sb 75 F = nI a) (ha : a + l.length ≤ 6000) (hr : r < 2 ^ 20) : (nI r ∈ l → ∃ i, i < l.length ∧ Ans (d + 1) 319 [.ref 61, .int (nI F), .int (nI r)] S (some (.int (nI i))) S) ∧ (nI r ∉ l → Ans (d + 1) 319 [.ref 61, .int (nI F), .int (nI r)] S (some (.int (Int32.ofInt (-1)))) S) := by
  obtain ⟨h1, h2, h3, h4, h5, h6, h7, h8, h9, h10, h11⟩ := h
  have e := localOf_T (d := d) (S := S) (f := F) (r := r) (a := a) (e := a + l.length) (F := F) hr hFM (by omega) ha (by rw [h9 _ (by decide) (by decide)]; exact hF) (by omega) (Or.inl ⟨rfl, h4⟩) (by rw [h8 75 (by decide) (by decide)]; exact h75)
  rw [show a + l.length - a = l.length by omega, lf_l (B := sA S 74) (x := nI r) l a (fun i y hy => (h5 i y hy).1)] at e
  obtain ⟨m1, m2⟩ := find_mem (l := l) (x := nI r)
  cases hx : l.findIdx? (fun y => y == nI r) with
  | some i =>
    rw [hx] at e
    have hm := m1 i hx
    have e2 : oI a ((some i).map (fun i => a + i)) = nI i := by
      show oI a (some (a + i)) = _
      unfold oI
      dsimp only
      exact congrArg nI (by omega)
    rw [e2] at e
    exact ⟨fun _ => ⟨i, (List.getElem?_eq_some_iff.mp hm).1, e⟩, fun q => absurd (List.mem_of_getElem? hm) q⟩
  | none =>
    rw [hx] at e
    exact ⟨fun q => absurd q (m2 hx), fun _ => e⟩
/-- one more -/
theorem zPs_1 {q r q' : Nat} (h : zPs own0 m u S0 H B0 c w t f b F a l q Sb S) (hr : r < 2 ^ 20) : zPs own0 m u S0 H B0 c w t f b F a (l ++ [nI r]) q' Sb (wI 6115 (nI q') (wA 76 F (nI (l.length + 1)) (wI 6123 (nI (a + l.length + 1)) (wA 74 (a + l.length) (nI r) S)))) := by
  obtain ⟨h1, h2, h3, h4, h5, h6, h7, h8, h9, h10, h11⟩ := h
  obtain ⟨S', hS'⟩ : ∃ S', S' = wI 6115 (nI q') (wA 76 F (nI (l.length + 1)) (wI 6123 (nI (a + l.length + 1)) (wA 74 (a + l.length) (nI r) S))) := ⟨_, rfl⟩
  rw [← hS']
  have e74 : ∀ i, sA S' 74 i = if i = a + l.length then nI r else sA S 74 i := fun i => by
    rw [hS']
    show sA (wA 76 F (nI (l.length + 1)) (wI 6123 (nI (a + l.length + 1)) (wA 74 (a + l.length) (nI r) S))) 74 i = _
    rw [rAn _ _ _ (show (74 : Nat) ≠ 76 by decide)]
    show (if 74 = 74 then upd (sA S 74) (a + l.length) (nI r) else sA S 74) i = _
    rw [if_pos rfl, upd_at]
  have e76 : ∀ i, sA S' 76 i = if i = F then nI (l.length + 1) else sA S 76 i := fun i => by
    rw [hS']
    have e0 : sA (wI 6123 (nI (a + l.length + 1)) (wA 74 (a + l.length) (nI r) S)) 76 = sA S 76 := rAn _ _ _ (show (76 : Nat) ≠ 74 by decide)
    show (if 76 = 76 then upd (sA (wI 6123 (nI (a + l.length + 1)) (wA 74 (a + l.length) (nI r) S)) 76) F (nI (l.length + 1)) else sA (wI 6123 (nI (a + l.length + 1)) (wA 74 (a + l.length) (nI r) S)) 76) i = _
    rw [if_pos rfl, upd_at, e0]
  have eA : ∀ x, x ≠ 74 → x ≠ 76 → sA S' x = sA S x := fun x x1 x2 => by
    rw [hS']
    show sA (wA 76 F (nI (l.length + 1)) (wI 6123 (nI (a + l.length + 1)) (wA 74 (a + l.length) (nI r) S))) x = _
    rw [rAn _ _ _ x2]
    show sA (wA 74 (a + l.length) (nI r) S) x = _
    rw [rAn _ _ _ x1]
  have eI : ∀ i, i ≠ 6115 → i ≠ 6123 → sI S' i = sI S i := fun i i1 i2 => by
    rw [hS', rIn _ _ i1]
    show sI (wI 6123 (nI (a + l.length + 1)) (wA 74 (a + l.length) (nI r) S)) i = _
    rw [rIn _ _ i2]
    rfl
  have hlen : (l ++ [nI r]).length = l.length + 1 := by rw [List.length_append]; rfl
  refine ⟨by rw [hS']; exact zE_wI (zE_wA (zE_wI (zE_wA h1 (by decide)) (by decide)) (by decide)) (by decide), by rw [hS']; exact rIe _ _ _, (eI _ (by decide) (by decide)).trans h3, ?_, fun i y hy => ?_, fun i hi => ?_, fun i => ?_, fun x x1 x2 => (eA x x1 x2).trans (h8 x x1 x2), fun i i1 i2 => (eI i i1 i2).trans (h9 i i1 i2), by rw [hS']; exact h10, by rw [hS']; exact h11⟩
  · rw [hlen, hS', rIn _ _ (by decide)]
    show sI (wI 6123 (nI (a + l.length + 1)) (wA 74 (a + l.length) (nI r) S)) 6123 = _
    rw [rIe]
    rfl
  · rw [List.getElem?_append] at hy
    by_cases hi : i < l.length
    · rw [if_pos hi] at hy
      rw [e74, if_neg (by omega)]
      exact h5 i y hy
    · rw [if_neg hi] at hy
      have hi2 : i - l.length = 0 := by
        rcases Nat.eq_zero_or_pos (i - l.length) with e | e
        · exact e
        · rw [List.getElem?_eq_none (by show 1 ≤ _; omega)] at hy
          cases hy
      rw [hi2] at hy
      injection hy with hy
      rw [e74, if_pos (by omega), ← hy]
      exact ⟨rfl, r, hr, rfl⟩
  · rw [e74, if_neg (by omega)]
    exact h6 i hi
  · rw [e76, h7, hlen]
    by_cases e : i = F
    · rw [if_pos e, if_pos e]
    · rw [if_neg e, if_neg e, if_neg e]
theorem zPs_at {q q' : Nat} (h : zPs own0 m u S0 H B0 c w t f b F a l q Sb S) : zPs own0 m u S0 H B0 c w t f b F a l q' Sb (wI 6115 (nI q') S) := by
  obtain ⟨h1, h2, h3, h4, h5, h6, h7, h8, h9, h10, h11⟩ := h
  exact ⟨zE_wI h1 (by decide), rIe _ _ _, (rIn _ _ (by decide)).trans h3, (rIn _ _ (by decide)).trans h4, h5, h6, h7, h8, fun i i1 i2 => (rIn _ _ i1).trans (h9 i i1 i2), h10, h11⟩
/-- the loop at 131 -/
theorem prm_L {k0 la lb lnm lf : Nat} {sc0 : SCs} (hX : zX β n V own0 m k1 S0) (hk0 : k0 ≤ k1) (hE : eqV E (qK β n) V) (hw : w ≤ W) (ht : t ≤ W) (hfW : f ≤ W) (hF : sI Sb 6122 = nI F) (hFM : F < 15) (h75 : sA Sb 75 F = nI a) (hroom : ∀ r, (∀ j, k0 ≤ j → j < r → 3 ≤ qK β n j) → r ≤ k1 → a + (r - k0) < 6000) (mla : la < 2 ^ 20) (mlb : lb < 2 ^ 20) (mlnm : lnm < 2 ^ 20) (mlf : lf < 2 ^ 20) : ∀ (mm : Nat) (l : List Int32) (sc' : SCs) (k : Nat) (S : cS), zPs own0 m u S0 H B0 c w t f b F a l k Sb S → l.length ≤ 8 → 9 < l.length + mm → scR1 E (qK β n) V s l sc' → scO E s sc0 sc' → k0 + 1 + l.length ≤ k → (∀ j, k0 ≤ j → j < k → 3 ≤ qK β n j) → (psPr (qK β n) E s mm l.length sc' k = none ∧ ∃ Sf, (∀ lv : sm_L, sm_get lv 0 = some (.ref 61) → sm_get lv 1 = some (.int (nI la)) → sm_get lv 2 = some (.int (nI lb)) → sm_get lv 3 = some (.int (nI lnm)) → sm_get lv 4 = some (.int (nI lf)) → sm_get lv 5 = some (.int (nI 1)) → Bod (d + 11) 336 131 lv [] S (some (.int 0)) Sf) ∧ zB own0 m u S0 H B0 W (flq (qL β n k0)) Sf) ∨ ∃ k2 sc2 l2 S2, psPr (qK β n) E s mm l.length sc' k = some (k2, sc2, l2.length) ∧ (∀ (lv : sm_L) (v : Option Value) (Sf : cS), sm_get lv 0 = some (.ref 61) → sm_get lv 1 = some (.int (nI la)) → sm_get lv 2 = some (.int (nI lb)) → sm_get lv 3 = some (.int (nI lnm)) → sm_get lv 4 = some (.int (nI lf)) → sm_get lv 5 = some (.int (nI 1)) → (∀ lv1 : sm_L, sm_get lv1 0 = some (.ref 61) → sm_get lv1 1 = some (.int (nI la)) → sm_get lv1 2 = some (.int (nI lb)) → sm_get lv1 3 = some (.int (nI lnm)) → sm_get lv1 4 = some (.int (nI lf)) → sm_get lv1 5 = some (.int (nI 0)) → Bod (d + 11) 336 131 lv1 [] S2 v Sf) → Bod (d + 11) 336 131 lv [] S v Sf) ∧ zPs own0 m u S0 H B0 c w t f b F a l2 (k2 - 1) Sb S2 ∧ l2 = l ++ prmL (qK β n) V (9 - l.length) k ∧ l2.length ≤ 8 ∧ l.length < l2.length ∧ k2 + 2 * l.length = k + 2 * l2.length ∧ qK β n (k2 - 1) = 7 ∧ scR1 E (qK β n) V s l2 sc2 ∧ scO E s sc0 sc2 ∧ ∀ j, k0 ≤ j → j < k2 → 3 ≤ qK β n j := by
  intro mm
  induction mm with
  | zero => intro l sc' k S h h8 h9; omega
  | succ mm ih =>
    intro l sc' k S h h8 h9 hR hO hk htk
    have hk1 := hX.2.1
    have hkk := r_k1 hX (k := k0) (r := k) hk0 htk
    obtain ⟨t1, -, -, -, t5, t6, -, -⟩ := z_tok hX h.1 hkk
    have hlt := rkd_lt (qK β n k)
    obtain ⟨y1, y2, y3, y4⟩ := rm_run (β := β) (n := n) (k := k0) (k1 := k) (by omega) htk
    have ef : fl β n k = flq (qL β n k0) := by rw [← y2]; rfl
    obtain ⟨b1, b2⟩ := z_bad (d := d + 9) (W := W) (j := k) hX h.1 h.2.1 h.2.2.1 hkk hw ht hfW
    rw [ef] at b1 b2
    have hF' : sI S 6122 = nI F := (h.2.2.2.2.2.2.2.2.1 _ (by decide) (by decide)).trans hF
    have h76' : sA S 76 F = nI l.length := by rw [h.2.2.2.2.2.2.1, if_pos rfl]
    have hrm := hroom k htk hkk
    by_cases e3 : qK β n k = 3
    · have e31 : rkd (qK β n k) = 1 := rkd_1.mpr e3
      by_cases e8 : l.length = 8
      · refine Or.inl ⟨?_, _, fun lv q0 q1 q2 q3 q4 q5 => zDp_2 (d := d + 3) q0 q1 q2 q3 q4 q5 mla mlb mlnm mlf h.2.1 (by omega) t1 (by omega) e31 hF' hFM h76' (by omega) e8 b1, b2⟩
        unfold psPr
        rw [if_neg (fun q => by omega)]
      obtain ⟨r, hr, hV⟩ := t6 e3
      obtain ⟨g1, g2⟩ := ps_loc (d := d + 10) (r := r) h hF hFM h75 (by omega) (by omega)
      obtain ⟨R1, R2⟩ := hR k e3
      rw [hV] at R1
      by_cases hm : nI r ∈ l
      · obtain ⟨i, hi, hA⟩ := g1 hm
        have hsome : scF E sc' s k ≠ none := fun q => (R1.mp q) hm
        refine Or.inl ⟨?_, _, fun lv q0 q1 q2 q3 q4 q5 => zDp_3 (d := d + 3) q0 q1 q2 q3 q4 q5 mla mlb mlnm mlf h.2.1 (by omega) t1 (by omega) e31 hF' hFM h76' (by omega) e8 (t5.trans hV) (by omega) (by omega) hA b1, b2⟩
        unfold psPr
        rw [if_pos ⟨e3, by omega⟩]
        unfold scP
        cases hq : scF E sc' s k with
        | none => exact absurd hq hsome
        | some e => rfl
      · have hnone := R1.mpr hm
        have hA := g2 hm
        have eP1 : psPr (qK β n) E s (mm + 1) l.length sc' k = if qK β n (k + 1) = 12 then psPr (qK β n) E s mm (l.length + 1) (scA s k 1 sc') (k + 2) else if qK β n (k + 1) = 7 then some (k + 2, scA s k 1 sc', l.length + 1) else none := by
          show (if qK β n k = 3 ∧ l.length < 8 then (match scP E s k sc' with
            | none => none
            | some sc1 => if qK β n (k + 1) = 12 then psPr (qK β n) E s mm (l.length + 1) sc1 (k + 2) else if qK β n (k + 1) = 7 then some (k + 2, sc1, l.length + 1) else none) else none) = _
          rw [if_pos ⟨e3, by omega⟩]
          unfold scP
          rw [hnone]
        have ePL : prmL (qK β n) V (9 - l.length) k = V k :: (if qK β n (k + 1) = 12 then prmL (qK β n) V (9 - (l.length + 1)) (k + 2) else []) := by
          obtain ⟨x, hx⟩ : ∃ x, 9 - l.length = x + 1 := ⟨8 - l.length, by omega⟩
          have hx2 : 9 - (l.length + 1) = x := by omega
          rw [hx, hx2]
          exact if_pos e3
        have hk2 : k + 1 ≤ k1 := q_end hX hkk (by omega)
        have hp : ∀ q', zPs own0 m u S0 H B0 c w t f b F a (l ++ [nI r]) q' Sb (wI 6115 (nI q') (wA 76 F (nI (l.length + 1)) (wI 6123 (nI (a + l.length + 1)) (wA 74 (a + l.length) (nI r) S)))) := fun q' => zPs_1 h (by omega)
        have hlen : (l ++ [nI r]).length = l.length + 1 := by rw [List.length_append]; rfl
        have hR' : scR1 E (qK β n) V s (l ++ [nI r]) (scA s k 1 sc') := by
          rw [← hV]
          exact scR1_A hE e3 hR
        have htk1 : ∀ j, k0 ≤ j → j < k + 1 → 3 ≤ qK β n j := fun j a1 a2 => by
          rcases Nat.lt_or_ge j k with e | e
          · exact htk j a1 e
          · obtain rfl : j = k := by omega
            omega
        have hk1' : sI (wI 6115 (nI (k + 1)) (wA 76 F (nI (l.length + 1)) (wI 6123 (nI (a + l.length + 1)) (wA 74 (a + l.length) (nI r) S)))) 6115 = nI (k + 1) := rIe _ _ _
        have h76n : sA (wI 6123 (nI (a + l.length + 1)) (wA 74 (a + l.length) (nI r) S)) 76 F = nI l.length := by
          show sA (wA 74 (a + l.length) (nI r) S) 76 F = _
          rw [rAn _ _ _ (show (76 : Nat) ≠ 74 by decide)]
          exact h76'
        have hFn : sI (wI 6123 (nI (a + l.length + 1)) (wA 74 (a + l.length) (nI r) S)) 6122 = nI F := (rIn _ _ (by decide)).trans hF'
        by_cases e12 : qK β n (k + 1) = 12
        · have c2 := z_sgT (d := d + 10) (K := 12) hX (hp (k + 1)).1 hk1' hk2 (by decide) e12
          rw [eP1, if_pos e12]
          have htk2 : ∀ j, k0 ≤ j → j < k + 2 → 3 ≤ qK β n j := fun j a1 a2 => by
            rcases Nat.lt_or_ge j (k + 1) with e | e
            · exact htk1 j a1 e
            · obtain rfl : j = k + 1 := by omega
              omega
          have hI := ih (l ++ [nI r]) (scA s k 1 sc') (k + 2) _ (zPs_at (q' := k + 2) (hp (k + 1))) (by rw [hlen]; omega) (by rw [hlen]; omega) hR' (scO_A hO) (by rw [hlen]; omega) htk2
          rw [hlen] at hI
          rcases hI with ⟨i1, Sf, i2, i3⟩ | ⟨k2, sc2, l2, S2, i1, i2, i3, i4, i5, i6, i7, i8, i9, i10, i11⟩
          · exact Or.inl ⟨i1, Sf, fun lv q0 q1 q2 q3 q4 q5 => zDp_4 (d := d + 3) q0 q1 q2 q3 q4 q5 mla mlb mlnm mlf h.2.1 (by omega) t1 (by omega) e31 hF' hFM h76' (by omega) e8 (t5.trans hV) (by omega) hA h.2.2.2.1 (by omega) h.2.1 (by omega) (t5.trans hV) (by omega) hFn hFM h76n (by omega) c2 hk1' (by omega) i2, i3⟩
          · refine Or.inr ⟨k2, sc2, l2, S2, i1, fun lv v Sf q0 q1 q2 q3 q4 q5 hB => zDp_4 (d := d + 3) q0 q1 q2 q3 q4 q5 mla mlb mlnm mlf h.2.1 (by omega) t1 (by omega) e31 hF' hFM h76' (by omega) e8 (t5.trans hV) (by omega) hA h.2.2.2.1 (by omega) h.2.1 (by omega) (t5.trans hV) (by omega) hFn hFM h76n (by omega) c2 hk1' (by omega) (fun lv1 p0 p1 p2 p3 p4 p5 => i2 lv1 v Sf p0 p1 p2 p3 p4 p5 hB), i3, ?_, i5, by omega, by omega, i8, i9, i10, i11⟩
            rw [i4, ePL, if_pos e12, List.append_assoc, hV]
            rfl
        · have c2 := z_sgF (d := d + 10) (K := 12) hX (hp (k + 1)).1 hk1' hk2 (by decide) e12
          rw [eP1, if_neg e12]
          by_cases e7 : qK β n (k + 1) = 7
          · rw [if_pos e7]
            refine Or.inr ⟨k + 2, scA s k 1 sc', l ++ [nI r], _, by rw [hlen], fun lv v Sf q0 q1 q2 q3 q4 q5 hB => zDp_5 (d := d + 3) q0 q1 q2 q3 q4 q5 mla mlb mlnm mlf h.2.1 (by omega) t1 (by omega) e31 hF' hFM h76' (by omega) e8 (t5.trans hV) (by omega) hA h.2.2.2.1 (by omega) h.2.1 (by omega) (t5.trans hV) (by omega) hFn hFM h76n (by omega) c2 hB, hp (k + 1), ?_, by rw [hlen]; omega, by rw [hlen]; omega, by rw [hlen]; omega, e7, hR', scO_A hO, fun j a1 a2 => ?_⟩
            · rw [ePL, if_neg e12, hV]
            · rcases Nat.lt_or_ge j (k + 1) with e | e
              · exact htk1 j a1 e
              · obtain rfl : j = k + 1 := by omega
                omega
          · rw [if_neg e7]
            obtain ⟨x1, x2, x3, x4⟩ := rm_run (β := β) (n := n) (k := k0) (k1 := k + 1) (by omega) htk1
            have ef2 : fl β n (k + 1) = flq (qL β n k0) := by rw [← x2]; rfl
            obtain ⟨c3, c4⟩ := z_tkF (d := d + 8) (W := W) (K := 7) hX (hp (k + 1)).1 hk1' (hp (k + 1)).2.2.1 hk2 (by decide) e7 hw ht hfW
            rw [ef2] at c3 c4
            exact Or.inl ⟨rfl, _, fun lv q0 q1 q2 q3 q4 q5 => zDp_5 (d := d + 3) q0 q1 q2 q3 q4 q5 mla mlb mlnm mlf h.2.1 (by omega) t1 (by omega) e31 hF' hFM h76' (by omega) e8 (t5.trans hV) (by omega) hA h.2.2.2.1 (by omega) h.2.1 (by omega) (t5.trans hV) (by omega) hFn hFM h76n (by omega) c2 (fun lv1 p0 p1 p2 p3 p4 p5 => zDq_4 (d := d + 3) p0 p1 p2 p3 p4 p5 mla mlb mlnm mlf c3), c4⟩
    · refine Or.inl ⟨?_, _, fun lv q0 q1 q2 q3 q4 q5 => zDp_1 (d := d + 3) q0 q1 q2 q3 q4 q5 mla mlb mlnm mlf h.2.1 (by omega) t1 (by omega) (fun q => e3 (rkd_1.mp q)) b1, b2⟩
      unfold psPr
      rw [if_neg (fun q => e3 q.1)]
end
