/-! THE SAME FUNCTION, its numbers worked out at once: for runs in the kernel -/
def sf_nat {α : Type} (n : Nat) (f : Nat → α) : α := Nat.rec (motive := fun _ => α) (f 0) (fun m _ => f (m + 1)) n
theorem sf_nat_eq {α : Type} (n : Nat) (f : Nat → α) : sf_nat n f = f n := by cases n <;> rfl
def sf_v {α : Type} (v : Value) (f : Value → α) : α := match v with
  | .int x => sf_nat x.toUInt32.toNat (fun k => f (.int (UInt32.ofNat k).toInt32))
  | .long x => sf_nat x.toUInt64.toNat (fun k => f (.long (UInt64.ofNat k).toInt64))
  | v => f v
theorem sf_v_eq {α : Type} (v : Value) (f : Value → α) : sf_v v f = f v := by
  unfold sf_v
  split
  · rw [sf_nat_eq, UInt32.ofNat_toNat]
    rfl
  · rw [sf_nat_eq, UInt64.ofNat_toNat]
    rfl
  · rfl
def sf_st {α : Type} (st : List Value) (f : List Value → α) : α := match st with
  | v :: r => sf_v v (fun v => f (v :: r))
  | [] => f []
theorem sf_st_eq {α : Type} (st : List Value) (f : List Value → α) : sf_st st f = f st := by
  unfold sf_st
  split
  · rw [sf_v_eq]
  · rfl
def sf_lv {α : Type} (lv : sm_L) (f : sm_L → α) : α := match lv with
  | (k, v) :: r => sf_v v (fun v => f ((k, v) :: r))
  | [] => f []
theorem sf_lv_eq {α : Type} (lv : sm_L) (f : sm_L → α) : sf_lv lv f = f lv := by
  unfold sf_lv
  split
  · rw [sf_v_eq]
  · rfl
def sf_K {α : Type} (K : sm_K) (f : sm_K → α) : α := sf_nat K.1 (fun pc => sf_lv K.2.1 (fun lv => sf_st K.2.2.1 (fun st => sf_nat K.2.2.2.2 (fun u => f (pc, lv, st, K.2.2.2.1, u)))))
theorem sf_K_eq {α : Type} (K : sm_K) (f : sm_K → α) : sf_K K f = f K := by
  unfold sf_K
  rw [sf_nat_eq, sf_lv_eq, sf_st_eq, sf_nat_eq]
/-- the instruction at a place: mostly the next one of the list -/
def sf_sr : sf_D → Nat → Option ((Instr × Nat) × sf_D)
  | [], _ => none
  | e :: r, pc => cond (e.1 == pc) (some (e.2, r)) (sf_sr r pc)
def sf_lk (tb : sf_D) (rest : sf_D) (pc : Nat) : Option ((Instr × Nat) × sf_D) := match rest with
  | e :: r => cond (e.1 == pc) (some (e.2, r)) (sf_sr tb pc)
  | [] => sf_sr tb pc
theorem sf_sr_ok {j pc : Nat} {q : Instr × Nat} {r : sf_D} : ∀ (tb : sf_D), sf_dok j tb → sf_sr tb pc = some (q, r) → decode (sm_cc j) pc = .ok q ∧ sf_dok j r := by
  intro tb
  induction tb with
  | nil => intro _ h; cases h
  | cons e tb ih =>
    intro hk h
    unfold sf_sr at h
    cases he : e.1 == pc with
    | true =>
      rw [he] at h
      cases h
      have h1 := hk e List.mem_cons_self
      rw [eq_of_beq he] at h1
      exact ⟨h1, fun x hx => hk x (List.mem_cons_of_mem _ hx)⟩
    | false =>
      rw [he] at h
      exact ih (fun x hx => hk x (List.mem_cons_of_mem _ hx)) h
theorem sf_lk_ok {j pc : Nat} {q : Instr × Nat} {r tb rest : sf_D} (ht : sf_dok j tb) (hr : sf_dok j rest) (h : sf_lk tb rest pc = some (q, r)) : decode (sm_cc j) pc = .ok q ∧ sf_dok j r := by
  unfold sf_lk at h
  split at h
  · rename_i e l
    cases he : e.1 == pc with
    | true =>
      rw [he] at h
      cases h
      have h1 := hr e List.mem_cons_self
      rw [eq_of_beq he] at h1
      exact ⟨h1, fun x hx => hr x (List.mem_cons_of_mem _ hx)⟩
    | false =>
      rw [he] at h
      exact sf_sr_ok tb ht h
  · exact sf_sr_ok tb ht h
def sf_run (X : Option (Nat × (Nat → Int32))) (cal : Nat → List Value → sm_H → Nat → Option sm_R) (j : Nat) (tb : sf_D) : Nat → sf_D → sm_K → Option sm_R
  | 0, _, _ => none
  | n + 1, rest, K => match sf_lk tb rest K.1 with
    | none => none
    | some (q, rest1) => match sm_do X j q.1 q.2 K.1 K.2.1 K.2.2.1 K.2.2.2.1 K.2.2.2.2 with
      | none => none
      | some (.inl K1) => sf_K K1 (fun K1 => sf_run X cal j tb n rest1 K1)
      | some (.inr (.inl (j1, as, pc, lv, r, h, u))) => match cal j1 as h u with
        | none => none
        | some (v, h1, u1) => sf_K (pc, lv, v.toList ++ r, h1, u1) (fun K1 => sf_run X cal j tb n rest1 K1)
      | some (.inr (.inr R)) => some R
theorem sf_run_ok {X : Option (Nat × (Nat → Int32))} {c1 c2 : Nat → List Value → sm_H → Nat → Option sm_R} {j : Nat} {tb : sf_D} (ht : sf_dok j tb) (hc : ∀ j1 as σ u r, c1 j1 as σ u = some r → c2 j1 as σ u = some r) : ∀ (n : Nat) (rest : sf_D) (K : sm_K) (r : sm_R), sf_dok j rest → sf_run X c1 j tb n rest K = some r → sm_run X c2 j n K = some r := by
  intro n
  induction n with
  | zero => intro rest K r _ h; cases h
  | succ n ih =>
    intro rest K r hr h
    unfold sf_run at h
    split at h
    · cases h
    · rename_i q rest1 hq
      obtain ⟨hd, hr1⟩ := sf_lk_ok ht hr hq
      have hs : sm_step X j K = sm_do X j q.1 q.2 K.1 K.2.1 K.2.2.1 K.2.2.2.1 K.2.2.2.2 := by
        unfold sm_step
        rw [hd]
      unfold sm_run
      rw [hs]
      split at h
      · cases h
      · rename_i K1 h1
        rw [sf_K_eq] at h
        simp only [h1]
        exact ih _ _ _ hr1 h
      · rename_i j1 as pc lv st σ u h1
        simp only [h1]
        split at h
        · cases h
        · rename_i v h2 u2 h3
          rw [sf_K_eq] at h
          simp only [hc _ _ _ _ _ h3]
          exact ih _ _ _ hr1 h
      · rename_i R0 h1
        simp only [h1]
        exact h
def sf_md : List (Nat × sf_D) := sf_md0 ++ (sf_md1 ++ (sf_md2 ++ (sf_md3 ++ (sf_md4 ++ (sf_md5 ++ (sf_md6 ++ sf_md7))))))
theorem sf_md_ok : ∀ q ∈ sf_md, sf_dok q.1 q.2 := by
  intro q hq
  unfold sf_md at hq
  simp only [List.mem_append] at hq
  rcases hq with h | h | h | h | h | h | h | h
  · exact sf_mdq0 q h
  · exact sf_mdq1 q h
  · exact sf_mdq2 q h
  · exact sf_mdq3 q h
  · exact sf_mdq4 q h
  · exact sf_mdq5 q h
  · exact sf_mdq6 q h
  · exact sf_mdq7 q h
def sf_ev (X : Option (Nat × (Nat → Int32))) : Nat → Nat → Nat → List Value → sm_H → Nat → Option sm_R
  | 0, _, _, _, _, _ => none
  | d + 1, n, j, as, h, u => match sf_md.find? (fun q => q.1 == j) with
    | none => none
    | some q => if (lg_sl as).length ≤ sm_ml j then sf_run X (sf_ev X d n) j q.2 n q.2 (0, lv_args 0 as, [], h, u) else none
theorem sf_find {j : Nat} {q : Nat × sf_D} (h : sf_md.find? (fun q => q.1 == j) = some q) : sf_dok j q.2 := by
  have h1 := sf_md_ok q (List.mem_of_find?_eq_some h)
  have h2 : (q.1 == j) = true := by simpa using List.find?_some h
  rw [eq_of_beq h2] at h1
  exact h1
theorem sf_ev_ok {X : Option (Nat × (Nat → Int32))} : ∀ (d n j : Nat) (as : List Value) (σ : sm_H) (u : Nat) (r : sm_R), sf_ev X d n j as σ u = some r → sm_ev X d n j as σ u = some r := by
  intro d
  induction d with
  | zero => intro n j as σ u r h; cases h
  | succ d ih =>
    intro n j as σ u r h
    unfold sf_ev at h
    split at h
    · cases h
    · rename_i q hq
      have hk := sf_find hq
      split at h
      · rename_i hl
        unfold sm_ev
        rw [if_pos hl]
        exact sf_run_ok hk (fun j1 as σ u r h => ih n j1 as σ u r h) n q.2 _ r hk h
      · cases h
/-- a method from a place on -/
def sf_from (X : Option (Nat × (Nat → Int32))) (d n j : Nat) (K : sm_K) : Option sm_R := match sf_md.find? (fun q => q.1 == j) with
  | none => none
  | some q => sf_run X (sf_ev X d n) j q.2 n [] K
theorem sf_from_ok {X : Option (Nat × (Nat → Int32))} {d n j : Nat} {K : sm_K} {r : sm_R} (h : sf_from X d n j K = some r) : sm_run X (sm_ev X d n) j n K = some r := by
  unfold sf_from at h
  split at h
  · cases h
  · rename_i q hq
    exact sf_run_ok (sf_find hq) (fun j1 as σ u r h => sf_ev_ok d n j1 as σ u r h) n [] K r (fun e he => absurd he List.not_mem_nil) h
