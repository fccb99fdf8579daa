/-! THE CLASS'S CHAINS: jumps out of a loop, entries of a scope -/
section
variable {d lo t : Nat}
theorem come_loop : ∀ (ps : List Nat) (S : cS) (y : Int32) (k hi : Nat), chL S (Int32.ofInt (-1)) ps y → chD lo hi ps → hi ≤ t → sI S 2307 = nI t → t ≤ 40960 → k + ps.length < 3000 → ∃ S1, (∀ lv : sm_L, sm_get lv 0 = some (.ref 43) → sm_get lv 2 = some (.int y) → sm_get lv 3 = some (.int (nI k)) → Bod (d + 8) 87 4 lv [] S none S1) ∧ FrT [] [] [24] [] S S1 ∧ (∀ i, (∀ p, p ∈ ps → i ≠ p + 1) → sA S1 24 i = sA S 24 i) ∧ ∀ p, p ∈ ps → sA S1 24 (p + 1) = nI t := by
  intro ps
  induction ps with
  | nil =>
    intro S y k hi h _ _ _ _ hk
    have hk2 : k < 3000 := by
      have : ([] : List Nat).length = 0 := rfl
      omega
    refine ⟨S, fun lv q0 q2 q3 => ?_, FrT.refl _ _ _ _ _, fun _ _ => rfl, fun p hp => by cases hp⟩
    rw [show y = Int32.ofInt (-1) from h] at q2
    exact cChE_2 q3 q2 q0 (by omega) (by omega)
  | cons p r ih =>
    intro S y k hi h hD hhi ht htM hk
    obtain ⟨h1, h2⟩ := h
    obtain ⟨g1, g2, g3, g4⟩ := hD
    have hk2 : k + 1 + r.length < 3000 := by
      have : (p :: r).length = r.length + 1 := rfl
      omega
    have hmem := chD_mem r _ g4
    obtain ⟨S1, i1, i2, i3, i4⟩ := ih (wA 24 (p + 1) (nI t) S) (sA S 24 (p + 1)) (k + 1) (p - 2) (chL_S r _ (fun q hq => by
      show upd (sA S 24) (p + 1) _ (q + 1) = _
      have := hmem q hq
      rw [upd_at, if_neg (by omega)]) h2) g4 (by omega) ((rAI _ _ _ _ _).trans ht) htM hk2
    refine ⟨S1, fun lv q0 q2 q3 => ?_, FrT.trans (FrT_wA (by decide) (FrT.refl _ _ _ _ _)) i2, fun i hi => ?_, fun q hq => ?_⟩
    · rw [h1] at q2
      have hat := at_T (d := d + 7) (S := S) (p := t) (q := p + 1) ht (by omega) htM
      have hpt := patch_T (d := d + 7) (S := S) (p := t) (q := p + 1) (x := nI t) ht (by omega) htM
      cases r with
      | nil =>
        rw [show sA S 24 (p + 1) = Int32.ofInt (-1) from h2] at hat i1
        exact cChL_3 q3 q2 q0 (by omega) (by omega) (by omega) hat ht (by omega) hpt (fun lv1 e0 e2 e3 => i1 lv1 e0 e2 e3)
      | cons q r2 =>
        have hq := hmem q List.mem_cons_self
        rw [h2.1] at hat i1
        exact cChL_2 q3 q2 q0 (by omega) (by omega) (by omega) (by omega) hat ht (by omega) hpt (fun lv1 e0 e2 e3 => i1 lv1 e0 e2 e3)
    · rw [i3 i (fun q hq => hi q (List.mem_cons_of_mem _ hq))]
      show upd (sA S 24) (p + 1) _ i = _
      rw [upd_at, if_neg (hi p List.mem_cons_self)]
    · rcases List.mem_cons.mp hq with rfl | hq
      · rw [i3 _ (fun x hx => by have := hmem x hx; omega)]
        show upd (sA S 24) (q + 1) _ (q + 1) = _
        rw [upd_at, if_pos rfl]
      · exact i4 q hq
/-- all of a chain is told to lead here -/
theorem come_T {ps : List Nat} {S : cS} {y : Int32} (h : chL S (Int32.ofInt (-1)) ps y) (hD : chD lo t ps) (ht : sI S 2307 = nI t) (htM : t ≤ 40960) (hk : ps.length < 3000) : ∃ S1, Ans (d + 9) 87 [.ref 43, .int y] S none S1 ∧ FrT [] [] [24] [] S S1 ∧ (∀ i, (∀ p, p ∈ ps → i ≠ p + 1) → sA S1 24 i = sA S 24 i) ∧ ∀ p, p ∈ ps → sA S1 24 (p + 1) = nI t := by
  obtain ⟨S1, h1, h2, h3, h4⟩ := come_loop (d := d) (t := t) ps S y 0 t h hD (Nat.le_refl _) ht htM (by omega)
  exact ⟨S1, Ans.of (by rw [ml_87]; exact Nat.le_of_ble_eq_true rfl) (Bod.lv (by rfl) (cCh0_1 (d := d) (fun lv1 q0 q2 q3 => h1 lv1 q0 q2 q3))), h2, h3, h4⟩
end
/-! entries -/
def lsI (f : Nat → Nat) (s : Nat) : Nat → Int32
  | 0 => Int32.ofInt (-1)
  | m + 1 => if f m = s then nI m else lsI f s m
def fnI (f nq : Nat → Nat) (s q : Nat) : Nat → Int32
  | 0 => Int32.ofInt (-1)
  | m + 1 => if f m = s then (if nq m = q then nI m else fnI f nq s q m) else fnI f nq s q m
theorem fnI_ok {f nq : Nat → Nat} {s q : Nat} : ∀ m, (fnI f nq s q m = Int32.ofInt (-1) ∧ ∀ e, e < m → ¬ (f e = s ∧ nq e = q)) ∨ ∃ e, e < m ∧ fnI f nq s q m = nI e ∧ f e = s ∧ nq e = q := by
  intro m
  induction m with
  | zero => exact Or.inl ⟨rfl, fun e he => by omega⟩
  | succ m ih =>
    unfold fnI
    by_cases h1 : f m = s
    · rw [if_pos h1]
      by_cases h2 : nq m = q
      · rw [if_pos h2]
        exact Or.inr ⟨m, by omega, rfl, h1, h2⟩
      · rw [if_neg h2]
        rcases ih with ⟨i1, i2⟩ | ⟨e, i1, i2⟩
        · refine Or.inl ⟨i1, fun e he hc => ?_⟩
          rcases Nat.lt_or_ge e m with h3 | h3
          · exact i2 e h3 hc
          · obtain rfl : e = m := by omega
            exact h2 hc.2
        · exact Or.inr ⟨e, by omega, i2⟩
    · rw [if_neg h1]
      rcases ih with ⟨i1, i2⟩ | ⟨e, i1, i2⟩
      · refine Or.inl ⟨i1, fun e he hc => ?_⟩
        rcases Nat.lt_or_ge e m with h3 | h3
        · exact i2 e h3 hc
        · obtain rfl : e = m := by omega
          exact h1 hc.1
      · exact Or.inr ⟨e, by omega, i2⟩
theorem lsI_ok {f : Nat → Nat} {s : Nat} : ∀ m, lsI f s m = Int32.ofInt (-1) ∨ ∃ e, e < m ∧ lsI f s m = nI e ∧ f e = s := by
  intro m
  induction m with
  | zero => exact Or.inl rfl
  | succ m ih =>
    unfold lsI
    by_cases h1 : f m = s
    · rw [if_pos h1]
      exact Or.inr ⟨m, by omega, rfl, h1⟩
    · rw [if_neg h1]
      rcases ih with i1 | ⟨e, i1, i2⟩
      · exact Or.inl i1
      · exact Or.inr ⟨e, by omega, i2⟩
section
variable {d s q M : Nat} {S : cS} {f nq : Nat → Nat}
theorem ent_loop (hM : M ≤ 1600) (hq : q < 2 ^ 20) (h36 : ∀ e, e < M → sA S 36 e = nI (nq e) ∧ nq e < 2 ^ 20) (h40 : ∀ e, e < M → f e = s → sA S 40 e = lsI f s e) : ∀ (m t : Nat) (lv : sm_L), m ≤ M → t + m ≤ 1600 → sm_get lv 0 = some (.ref 32) → sm_get lv 2 = some (.int (nI q)) → sm_get lv 3 = some (.int (lsI f s m)) → sm_get lv 4 = some (.int (nI t)) → Bod (d + 8) 95 25 lv [] S (some (.int (fnI f nq s q m))) S := by
  intro m
  induction m with
  | zero =>
    intro t lv _ _ q0 q2 q3 q4
    rcases Nat.lt_or_ge t 1600 with h | h
    · exact cEntE_2 q4 q3 q2 q0 (by omega) hq h
    · exact cEntE_1 q4 q3 q2 q0 (by omega) hq h
  | succ m ih =>
    intro t lv hm ht q0 q2 q3 q4
    unfold lsI at q3
    unfold fnI
    by_cases h1 : f m = s
    · rw [if_pos h1] at q3 ⊢
      obtain ⟨n1, n2⟩ := h36 m (by omega)
      by_cases h2 : nq m = q
      · rw [if_pos h2]
        exact cEnrL_4 q4 q3 q2 q0 (by omega) (by omega) hq (by omega) (by omega) n1 n2 h2
      · rw [if_neg h2]
        exact cEnrL_3 q4 q3 q2 q0 (by omega) (by omega) hq (by omega) (by omega) n1 n2 h2 (fun lv1 e0 e2 e3 e4 => ih (t + 1) lv1 (by omega) (by omega) e0 e2 (by rw [← h40 m (by omega) h1]; exact e3) e4)
    · rw [if_neg h1] at q3 ⊢
      exact ih t lv (by omega) (by omega) q0 q2 q3 q4
/-- entryOf: the latest entry of the scope with this name -/
theorem ent_T (hM : M ≤ 1600) (hq : q < 2 ^ 20) (hs : 1 ≤ s) (hs2 : s < 300) (h35 : sA S 35 s = lsI f s M) (h36 : ∀ e, e < M → sA S 36 e = nI (nq e) ∧ nq e < 2 ^ 20) (h40 : ∀ e, e < M → f e = s → sA S 40 e = lsI f s e) : Ans (d + 9) 95 [.ref 32, .int (nI s), .int (nI q)] S (some (.int (fnI f nq s q M))) S :=
  Ans.of (by rw [ml_95]; exact Nat.le_of_ble_eq_true rfl) (Bod.lv (by rfl) (cEnr0_3 (d := d) (by omega) hq (by omega) hs2 (fun lv1 e0 e2 e3 e4 => ent_loop hM hq h36 h40 M 0 lv1 (Nat.le_refl _) (by omega) e0 e2 (by rw [← h35]; exact e3) e4)))
theorem ent_wl {en : Nat} {y0 : Int32} (hen : en ≤ 1600) (h : ∀ e, e < en → sA S 40 e = Int32.ofInt (-1) ∨ ∃ e', e' < e ∧ sA S 40 e = nI e') : ∀ (m : Nat) (y : Int32), m ≤ en → (y = Int32.ofInt (-1) ∨ ∃ e, e < m ∧ y = nI e) → ∃ x, (x = Int32.ofInt (-1) ∨ ∃ e, e < en ∧ x = nI e) ∧ ∀ (t : Nat) (lv : sm_L), t + m ≤ 1600 → sm_get lv 0 = some (.ref 32) → sm_get lv 2 = some (.int y0) → sm_get lv 3 = some (.int y) → sm_get lv 4 = some (.int (nI t)) → Bod (d + 8) 95 25 lv [] S (some (.int x)) S := by
  have hend : ∀ (y : Int32), y = Int32.ofInt (-1) → ∀ (t m : Nat) (lv : sm_L), t + m ≤ 1600 → sm_get lv 0 = some (.ref 32) → sm_get lv 2 = some (.int y0) → sm_get lv 3 = some (.int y) → sm_get lv 4 = some (.int (nI t)) → Bod (d + 8) 95 25 lv [] S (some (.int (Int32.ofInt (-1)))) S := fun y hy t m lv ht q0 q2 q3 q4 => by
    rw [hy] at q3
    rcases Nat.lt_or_ge t 1600 with h | h
    · exact cEnxE_2 q4 q3 q2 q0 (by omega) h
    · exact cEnxE_1 q4 q3 q2 q0 (by omega) h
  intro m
  induction m with
  | zero =>
    intro y _ hy
    rcases hy with hy | ⟨e, he, _⟩
    · exact ⟨_, Or.inl rfl, fun t lv ht => hend y hy t 0 lv ht⟩
    · omega
  | succ m ih =>
    intro y hm hy
    rcases hy with hy | ⟨e, he, hy⟩
    · exact ⟨_, Or.inl rfl, fun t lv ht => hend y hy t (m + 1) lv ht⟩
    rcases Nat.lt_or_ge e m with h1 | h1
    · obtain ⟨x, x1, x2⟩ := ih y (by omega) (Or.inr ⟨e, h1, hy⟩)
      exact ⟨x, x1, fun t lv ht => x2 t lv (by omega)⟩
    · obtain rfl : e = m := by omega
      have n3 := h e (by omega)
      by_cases h2 : sA S 36 e = y0
      · refine ⟨nI e, Or.inr ⟨e, by omega, rfl⟩, fun t lv ht q0 q2 q3 q4 => ?_⟩
        rw [hy] at q3
        exact cEnxL_3 q4 q3 q2 q0 (by omega) (by omega) (by omega) (by omega) h2
      · obtain ⟨x, x1, x2⟩ := ih (sA S 40 e) (by omega) n3
        refine ⟨x, x1, fun t lv ht q0 q2 q3 q4 => ?_⟩
        rw [hy] at q3
        exact cEnxL_4 q4 q3 q2 q0 (by omega) (by omega) (by omega) (by omega) h2 (fun lv1 e0 e2 e3 e4 => x2 (t + 1) lv1 (by omega) e0 e2 e3 e4)
/-- entryOf whatever the scopes hold -/
theorem ent_W {sn en : Nat} {y0 : Int32} (hW : yW S sn en) (hen : en ≤ 1600) (hs : s < sn) (hs2 : sn ≤ 300) : ∃ x, (x = Int32.ofInt (-1) ∨ ∃ e, e < en ∧ x = nI e) ∧ Ans (d + 9) 95 [.ref 32, .int (nI s), .int y0] S (some (.int x)) S := by
  rcases Nat.eq_zero_or_pos s with h0 | h0
  · refine ⟨Int32.ofInt (-1), Or.inl rfl, Ans.of (by rw [ml_95]; exact Nat.le_of_ble_eq_true rfl) (Bod.lv (by rfl) (cEnx0_1 (d := d) (by omega) (by omega) (fun lv1 e0 e2 e3 e4 => cEnxE_2 e4 e3 e2 e0 (by omega) (by omega))))⟩
  · obtain ⟨x, x1, x2⟩ := ent_wl (d := d) (y0 := y0) hen hW.2 en (sA S 35 s) (Nat.le_refl _) (hW.1 s h0 hs)
    exact ⟨x, x1, Ans.of (by rw [ml_95]; exact Nat.le_of_ble_eq_true rfl) (Bod.lv (by rfl) (cEnx0_3 (d := d) (by omega) (by omega) (by omega) (fun lv1 e0 e2 e3 e4 => x2 0 lv1 (by omega) e0 e2 e3 e4)))⟩
end
