/-! NAMES GET THEIR PLACES in the class: where a name is, from a scope outward -/
/-- the entry of a name in a scope -/
def scX (E : Nat → Nat → Bool) (sc : SCs) (s k : Nat) : Option Nat := sc.2.findIdx? (fun e => Nat.beq e.1 s && E e.2.1 k)
/-- how far out a name's scope is and which of its locals the name is; none: it is global -/
def plc (E : Nat → Nat → Bool) (sc : SCs) (s0 k : Nat) : Nat → Nat → Nat → Option (Nat × Nat)
  | 0, _, _ => none
  | m + 1, u, t => if u = 0 then none else match scX E sc u k with
    | none => plc E sc s0 k m (scI sc u).1 (t + 1)
    | some e => if sKd sc.2 e ≠ 2 then some (t, slC sc.2 e u) else if u = s0 then none else plc E sc s0 k m (scI sc u).1 (t + 1)
def plS (p : Nat) (T : cS) : Option (Nat × Nat) → cS
  | none => T
  | some x => wA 24 (p + 2) (nI x.2) (wA 24 (p + 1) (nI x.1) T)
theorem getD_get {l : List (Nat × Nat × Nat)} {e : Nat} (h : e < l.length) : l.getD e (0, 0, 0) = l[e] := by
  rw [List.getD_eq_getElem?_getD, List.getElem?_eq_getElem h]
  rfl
theorem scX_some {β : Nat → Nat} {n k s e : Nat} {sc : SCs} (hW : scW (Eb β n) sc) (he : e < sc.2.length) (hs : sF sc.2 e = s) (hE : Eb β n (sT sc.2 e) k = true) : scX (Eb β n) sc s k = some e := by
  unfold scX
  rw [List.findIdx?_eq_some_iff_getElem]
  have h1 : sF sc.2 e = sc.2[e].1 := by unfold sF; rw [getD_get he]
  have h2 : sT sc.2 e = sc.2[e].2.1 := by unfold sT; rw [getD_get he]
  refine ⟨he, ?_, fun j hj hc => ?_⟩
  · rw [← h1, ← h2, hs, hE, Nat.beq_refl]
    rfl
  · have hjl : j < sc.2.length := by omega
    have h3 : sF sc.2 j = sc.2[j].1 := by unfold sF; rw [getD_get hjl]
    have h4 : sT sc.2 j = sc.2[j].2.1 := by unfold sT; rw [getD_get hjl]
    rw [← h3, ← h4] at hc
    obtain ⟨c1, c2⟩ := (Bool.and_eq_true _ _).mp hc
    have c3 := hW.2.1 j e hj he (by rw [Nat.eq_of_beq_eq_true c1, hs])
    rw [Eb_trans c2 (Eb_symm hE)] at c3
    cases c3
theorem scX_none {E : Nat → Nat → Bool} {k s : Nat} {sc : SCs} (h : scF E sc s k = none) : scX E sc s k = none := by
  unfold scX
  unfold scF at h
  rw [List.findIdx?_eq_none_iff]
  rw [List.find?_eq_none] at h
  intro x hx
  have := h x hx
  exact Bool.eq_false_iff.mpr this
section
variable {d : Nat}
theorem ent_S2 {β : Nat → Nat} {n fb a0 k q s z : Nat} {sc : SCs} {S T : cS} (hS : yS β n fb a0 sc S) (hW : scW (Eb β n) sc) (hN : c_NT S z) (hq : nmR β n S k (nI q)) (hqM : q < 4096) (hs : 1 ≤ s) (hs1 : s < sc.1.length) (hs2 : sc.1.length ≤ 300) (hM : sc.2.length ≤ 1600) (hA : ∀ x, x ∈ [35, 36, 40] → sA T x = sA S x) : (scX (Eb β n) sc s k = none ∧ Ans (d + 9) 95 [.ref 32, .int (nI s), .int (nI q)] T (some (.int (Int32.ofInt (-1)))) T) ∨ ∃ e, e < sc.2.length ∧ sF sc.2 e = s ∧ scX (Eb β n) sc s k = some e ∧ Ans (d + 9) 95 [.ref 32, .int (nI s), .int (nI q)] T (some (.int (nI e))) T := by
  have hT : Ans (d + 9) 95 [.ref 32, .int (nI s), .int (nI q)] T _ T := ent_T (d := d) (S := T) (f := sF sc.2) (nq := fun e => gN (sA S 36 e)) hM (by omega) hs (by omega) (by rw [hA 35 (by decide)]; exact (hS.1 s hs hs1).2.2.1) (fun e he => by
    obtain ⟨g1, _⟩ := hS.2 e he
    obtain ⟨p, p1, p2, p3⟩ := nmR_lt g1
    rw [hA 36 (by decide)]
    show sA S 36 e = nI (gN (sA S 36 e)) ∧ gN (sA S 36 e) < 2 ^ 20
    rw [p1, gN_nI (by omega)]
    exact ⟨rfl, by omega⟩) (fun e he hf => by
    rw [hA 40 (by decide)]
    have := (hS.2 e he).2.2.2
    rw [hf] at this
    exact this)
  rcases scF_T (s := s) hS hW hN hq hqM with ⟨h1, h2⟩ | ⟨e, h1, h2, h3, h4, h5⟩
  · rw [h2] at hT
    exact Or.inl ⟨scX_none h1, hT⟩
  · rw [h2] at hT
    exact Or.inr ⟨e, h1, h4, scX_some hW h1 h4 h5, hT⟩
/-- a name's place is told -/
theorem fxp_L {β : Nat → Nat} {n fb a0 kn q s0 z p top : Nat} {sc : SCs} {S T : cS} (hS : yS β n fb a0 sc S) (hW : scW (Eb β n) sc) (hN : c_NT S z) (hq : nmR β n S kn (nI q)) (hqM : q < 4096) (h300 : sc.1.length ≤ 300) (h1600 : sc.2.length ≤ 1600) (hA : ∀ x, x ∈ [33, 35, 36, 38, 40] → sA T x = sA S x) (h39 : ∀ e, e < sc.2.length → sKd sc.2 e ≠ 2 → sA T 39 e = nI (slC sc.2 e (sF sc.2 e))) (h7 : sI T 2307 = nI top) (hp : p + 2 < top) (htop : top ≤ 40960) (hs0 : s0 < 2 ^ 20) : ∀ (m t u : Nat), t + m = 300 → u < sc.1.length → ∀ lv : sm_L, sm_get lv 0 = some (.ref 32) → sm_get lv 1 = some (.int (nI p)) → sm_get lv 2 = some (.int (nI s0)) → sm_get lv 3 = some (.int (nI q)) → sm_get lv 4 = some (.int (nI u)) → sm_get lv 5 = some (.int (nI t)) → Bod (d + 10) 125 17 lv [] T none (plS p T (plc (Eb β n) sc s0 kn m u t)) := by
  intro m
  induction m with
  | zero =>
    intro t u ht hu lv q0 q1 q2 q3 q4 q5
    exact cFxL_1 (d := d + 2) q0 q1 q2 q3 q4 q5 (by omega) hs0 (by omega) (by omega) (by omega) (by omega)
  | succ m ih =>
    intro t u ht hu lv q0 q1 q2 q3 q4 q5
    by_cases hu0 : u = 0
    · have e : plc (Eb β n) sc s0 kn (m + 1) u t = none := by simp only [plc, if_pos hu0]
      rw [e]
      exact cFxL_2 (d := d + 2) q0 q1 q2 q3 q4 q5 (by omega) hs0 (by omega) (by omega) (by omega) (by omega) (by omega)
    have h33 : sA T 33 u = nI (scI sc u).1 := by rw [hA 33 (by decide)]; exact (hS.1 u (by omega) hu).1
    have hpar := hW.2.2.1 u (by omega) hu
    rcases ent_S2 (d := d + 1) (T := T) hS hW hN hq hqM (s := u) (by omega) hu h300 h1600 (fun x hx => hA x (by
      have : ∀ x, x ∈ [35, 36, 40] → x ∈ [33, 35, 36, 38, 40] := by decide
      exact this x hx)) with ⟨hx, hE⟩ | ⟨e, he, hes, hx, hE⟩
    · have e : plc (Eb β n) sc s0 kn (m + 1) u t = plc (Eb β n) sc s0 kn m (scI sc u).1 (t + 1) := by simp only [plc, if_neg hu0, hx]
      rw [e]
      exact cFxL_8 (d := d + 2) q0 q1 q2 q3 q4 q5 (by omega) hs0 (by omega) (by omega) (by omega) (by omega) (by omega) (by omega) hE h33 (by omega) (fun lv1 r0 r1 r2 r3 r4 r5 => ih (t + 1) _ (by omega) (by omega) lv1 r0 r1 r2 r3 r4 r5)
    · have h38 : sA T 38 e = nI (sKd sc.2 e) := by rw [hA 38 (by decide)]; exact (hS.2 e he).2.2.1
      have hk2 := hW.2.2.2 e he
      by_cases hk : sKd sc.2 e = 2
      · by_cases hus : u = s0
        · have e1 : plc (Eb β n) sc s0 kn (m + 1) u t = none := by simp only [plc, if_neg hu0, hx, ne_eq, hk, not_true_eq_false, if_false, if_pos hus]
          rw [e1]
          exact cFxL_6 (d := d + 2) q0 q1 q2 q3 q4 q5 (by omega) hs0 (by omega) (by omega) (by omega) (by omega) (by omega) (by omega) (by omega) hE (by omega) h38 (by omega) hk hus
        · have e1 : plc (Eb β n) sc s0 kn (m + 1) u t = plc (Eb β n) sc s0 kn m (scI sc u).1 (t + 1) := by simp only [plc, if_neg hu0, hx, ne_eq, hk, not_true_eq_false, if_false, if_neg hus]
          rw [e1]
          exact cFxL_5 (d := d + 2) q0 q1 q2 q3 q4 q5 (by omega) hs0 (by omega) (by omega) (by omega) (by omega) (by omega) (by omega) (by omega) hE (by omega) h38 (by omega) hk hus h33 (by omega) (fun lv1 r0 r1 r2 r3 r4 r5 => ih (t + 1) _ (by omega) (by omega) lv1 r0 r1 r2 r3 r4 r5)
      · have e1 : plc (Eb β n) sc s0 kn (m + 1) u t = some (t, slC sc.2 e u) := by simp only [plc, if_neg hu0, hx, ne_eq, hk, not_false_eq_true, if_true]
        rw [e1]
        have hsl := slC_le sc.2 u e
        have h39e := h39 e he hk
        rw [hes] at h39e
        have pt2 : Ans (d + 10) 83 [.ref 23, .int (nI (p + 2)), .int (nI (slC sc.2 e u))] (wA 24 (p + 1) (nI t) T) none (wA 24 (p + 2) (nI (slC sc.2 e u)) (wA 24 (p + 1) (nI t) T)) := patch_T (d := d + 9) (p := top) (by rw [rAI]; exact h7) (by omega) htop
        exact cFxL_7 (d := d + 2) q0 q1 q2 q3 q4 q5 (by omega) hs0 (by omega) (by omega) (by omega) (by omega) (by omega) (by omega) (by omega) hE (by omega) h38 (by omega) hk (patch_T (d := d + 9) h7 (by omega) htop) h39e (by omega) pt2
end
