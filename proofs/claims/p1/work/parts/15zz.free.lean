/-! THE SAME once more, but values are left as they stand: for runs over a script that is not known -/
def sg_K {α : Type} (K : sm_K) (f : sm_K → α) : α := sf_nat K.1 (fun pc => sf_nat K.2.2.2.2 (fun u => f (pc, K.2.1, K.2.2.1, K.2.2.2.1, u)))
theorem sg_K_eq {α : Type} (K : sm_K) (f : sm_K → α) : sg_K K f = f K := by
  unfold sg_K
  rw [sf_nat_eq, sf_nat_eq]
def sg_run (X : Option (Nat × (Nat → Int32))) (cal : Nat → List Value → sm_H → Nat → Option sm_R) (j : Nat) (tb : sf_D) : Nat → sf_D → sm_K → Option sm_R
  | 0, _, _ => none
  | n + 1, rest, K => match sf_lk tb rest K.1 with
    | none => none
    | some (q, rest1) => match sm_do X j q.1 q.2 K.1 K.2.1 K.2.2.1 K.2.2.2.1 K.2.2.2.2 with
      | none => none
      | some (.inl K1) => sg_K K1 (fun K1 => sg_run X cal j tb n rest1 K1)
      | some (.inr (.inl (j1, as, pc, lv, r, h, u))) => match cal j1 as h u with
        | none => none
        | some (v, h1, u1) => sg_K (pc, lv, v.toList ++ r, h1, u1) (fun K1 => sg_run X cal j tb n rest1 K1)
      | some (.inr (.inr R)) => some R
theorem sg_run_ok {X : Option (Nat × (Nat → Int32))} {c1 c2 : Nat → List Value → sm_H → Nat → Option sm_R} {j : Nat} {tb : sf_D} (ht : sf_dok j tb) (hc : ∀ j1 as σ u r, c1 j1 as σ u = some r → c2 j1 as σ u = some r) : ∀ (n : Nat) (rest : sf_D) (K : sm_K) (r : sm_R), sf_dok j rest → sg_run X c1 j tb n rest K = some r → sm_run X c2 j n K = some r := by
  intro n
  induction n with
  | zero => intro rest K r _ h; cases h
  | succ n ih =>
    intro rest K r hr h
    unfold sg_run at h
    split at h
    · cases h
    · rename_i q rest1 hq
      obtain ⟨hd, hr1⟩ := sf_lk_ok ht hr hq
      have hs : sm_step X j K = sm_do X j q.1 q.2 K.1 K.2.1 K.2.2.1 K.2.2.2.1 K.2.2.2.2 := by
        unfold sm_step
        rw [hd]
      unfold sm_run
      rw [hs]
      split at h
      · cases h
      · rename_i K1 h1
        rw [sg_K_eq] at h
        simp only [h1]
        exact ih _ _ _ hr1 h
      · rename_i j1 as pc lv st σ u h1
        simp only [h1]
        split at h
        · cases h
        · rename_i v h2 u2 h3
          rw [sg_K_eq] at h
          simp only [hc _ _ _ _ _ h3]
          exact ih _ _ _ hr1 h
      · rename_i R0 h1
        simp only [h1]
        exact h
def sg_ev (X : Option (Nat × (Nat → Int32))) : Nat → Nat → Nat → List Value → sm_H → Nat → Option sm_R
  | 0, _, _, _, _, _ => none
  | d + 1, n, j, as, h, u => match sf_md.find? (fun q => q.1 == j) with
    | none => none
    | some q => if (lg_sl as).length ≤ sm_ml j then sg_run X (sg_ev X d n) j q.2 n q.2 (0, lv_args 0 as, [], h, u) else none
theorem sg_ev_ok {X : Option (Nat × (Nat → Int32))} : ∀ (d n j : Nat) (as : List Value) (σ : sm_H) (u : Nat) (r : sm_R), sg_ev X d n j as σ u = some r → sm_ev X d n j as σ u = some r := by
  intro d
  induction d with
  | zero => intro n j as σ u r h; cases h
  | succ d ih =>
    intro n j as σ u r h
    unfold sg_ev at h
    split at h
    · cases h
    · rename_i q hq
      have hk := sf_find hq
      split at h
      · rename_i hl
        unfold sm_ev
        rw [if_pos hl]
        exact sg_run_ok hk (fun j1 as σ u r h => ih n j1 as σ u r h) n q.2 _ r hk h
      · cases h
/-- a method from a place on, to its end -/
def sg_at (X : Option (Nat × (Nat → Int32))) (d k j : Nat) (tb : sf_D) (n : Nat) (K : sm_K) : Option sm_R := sg_run X (sg_ev X d k) j tb n [] K
theorem sg_at_ok {X : Option (Nat × (Nat → Int32))} {d k j n : Nat} {tb : sf_D} {K : sm_K} {r : sm_R} (ht : sf_dok j tb) (h : sg_at X d k j tb n K = some r) : sm_run X (sm_ev X d k) j n K = some r :=
  sg_run_ok ht (fun j1 as σ u r h => sg_ev_ok d k j1 as σ u r h) n [] K r (fun e he => absurd he List.not_mem_nil) h
