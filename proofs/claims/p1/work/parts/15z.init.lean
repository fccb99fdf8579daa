/-! THE START: both objects made -/
/-- some steps of a method, its calls among them -/
def sf_go (X : Option (Nat × (Nat → Int32))) (cal : Nat → List Value → sm_H → Nat → Option sm_R) (j : Nat) (tb : sf_D) : Nat → sf_D → sm_K → Option sm_K
  | 0, _, K => some K
  | n + 1, rest, K => match sf_lk tb rest K.1 with
    | none => none
    | some (q, rest1) => match sm_do X j q.1 q.2 K.1 K.2.1 K.2.2.1 K.2.2.2.1 K.2.2.2.2 with
      | none => none
      | some (.inl K1) => sf_K K1 (fun K1 => sf_go X cal j tb n rest1 K1)
      | some (.inr (.inl (j1, as, pc, lv, r, h, u))) => match cal j1 as h u with
        | none => none
        | some (v, h1, u1) => sf_K (pc, lv, v.toList ++ r, h1, u1) (fun K1 => sf_go X cal j tb n rest1 K1)
      | some (.inr (.inr _)) => none
theorem sf_go_ok {X : Option (Nat × (Nat → Int32))} {c1 c2 : Nat → List Value → sm_H → Nat → Option sm_R} {j : Nat} {tb : sf_D} (ht : sf_dok j tb) (hc : ∀ j1 as σ u r, c1 j1 as σ u = some r → c2 j1 as σ u = some r) : ∀ (n m : Nat) (rest : sf_D) (K K1 : sm_K), sf_dok j rest → sf_go X c1 j tb n rest K = some K1 → sm_run X c2 j (n + m) K = sm_run X c2 j m K1 := by
  intro n
  induction n with
  | zero =>
    intro m rest K K1 _ h
    cases h
    rw [Nat.zero_add]
  | succ n ih =>
    intro m rest K K2 hr h
    rw [Nat.succ_add]
    unfold sf_go at h
    split at h
    · cases h
    · rename_i q rest1 hq
      obtain ⟨hd, hr1⟩ := sf_lk_ok ht hr hq
      have hs : sm_step X j K = sm_do X j q.1 q.2 K.1 K.2.1 K.2.2.1 K.2.2.2.1 K.2.2.2.2 := by
        unfold sm_step
        rw [hd]
      conv => lhs; unfold sm_run
      rw [hs]
      split at h
      · cases h
      · rename_i K1 h1
        rw [sf_K_eq] at h
        simp only [h1]
        exact ih _ _ _ _ hr1 h
      · rename_i j1 as pc lv st σ u h1
        simp only [h1]
        split at h
        · cases h
        · rename_i v h2 u2 h3
          rw [sf_K_eq] at h
          simp only [hc _ _ _ _ _ h3]
          exact ih _ _ _ _ hr1 h
      · cases h
theorem sf_go_at {X : Option (Nat × (Nat → Int32))} {d k j m n N : Nat} {tb : sf_D} {K K1 : sm_K} (ht : sf_dok j tb) (hN : N = m + n) (h : sf_go X (sf_ev X d k) j tb m [] K = some K1) : sm_run X (sm_ev X d k) j N K = sm_run X (sm_ev X d k) j n K1 := by
  subst hN
  exact sf_go_ok ht (fun j1 as σ u r h => sf_ev_ok d k j1 as σ u r h) m n [] K K1 (fun e he => absurd he List.not_mem_nil) h
/-- a method from a place on, to its end -/
def sf_at (X : Option (Nat × (Nat → Int32))) (d k j : Nat) (tb : sf_D) (n : Nat) (K : sm_K) : Option sm_R := sf_run X (sf_ev X d k) j tb n [] K
theorem sf_at_ok {X : Option (Nat × (Nat → Int32))} {d k j n : Nat} {tb : sf_D} {K : sm_K} {r : sm_R} (ht : sf_dok j tb) (h : sf_at X d k j tb n K = some r) : sm_run X (sm_ev X d k) j n K = some r :=
  sf_run_ok ht (fun j1 as σ u r h => sf_ev_ok d k j1 as σ u r h) n [] K r (fun e he => absurd he List.not_mem_nil) h
theorem np_0 : sm_np 0 = 0 := by decide +kernel
theorem np_2 : sm_np 2 = 1 := by decide +kernel
theorem np_3 : sm_np 3 = 1 := by decide +kernel
theorem np_281 : sm_np 281 = 0 := by decide +kernel
theorem kr_2_37 : sm_at mt_k (sm_ow 2) 37 = some (37, 0, 3, 0, 438) := by decide +kernel
theorem kr_0_22 : sm_at mt_k (sm_ow 0) 22 = some (22, 5, 2, 1, 433) := by decide +kernel
theorem ow_3 : 5 = sm_ow 3 := by decide +kernel
theorem cl_5 : 5 < mt_cl.length := by decide +kernel
theorem dc_2_66 : decode (sm_cc 2) 66 = .ok (.invokevirtual 37, 3) := by decide +kernel
theorem dc_2_72 : decode (sm_cc 2) 72 = .ok (.invokevirtual 37, 3) := by decide +kernel
theorem dc_2_78 : decode (sm_cc 2) 78 = .ok (.invokevirtual 37, 3) := by decide +kernel
theorem dc_2_84 : decode (sm_cc 2) 84 = .ok (.invokevirtual 37, 3) := by decide +kernel
theorem dc_2_87 : decode (sm_cc 2) 87 = .ok (.return_, 1) := by decide +kernel
theorem dc_0_33 : decode (sm_cc 0) 33 = .ok (.invokespecial 22, 3) := by decide +kernel
theorem sx_ret {X : Option (Nat × (Nat → Int32))} {cal : Nat → List Value → sm_H → Nat → Option sm_R} {j n pc u : Nat} {lv : sm_L} {σ : sm_H} (hd : decode (sm_cc j) pc = .ok (.return_, 1)) (hr : sm_rt j = none) : sm_run X cal j (n + 1) (pc, lv, [], σ, u) = some (none, σ, u) := sx_end0 hd (by
  unfold sm_do
  rw [hr]
  rfl)
/-- one lesson of the names -/
theorem nm_lesson {pc t n : Nat} {a b : sm_H} (hd : decode (sm_cc 2) pc = .ok (.invokevirtual 37, 3)) (ho : sx_ob a 16 = some 5) (h : sf_ev none 20 100000 3 [.ref 16, .retAddr t] a 42559 = some (none, b, 42559)) : sm_run none (sm_ev none 20 200000) 2 (n + 1) (pc, lv_args 0 [.ref 16, .ref 2], [.retAddr t, .ref 16], a, 42559) = sm_run none (sm_ev none 20 200000) 2 n (pc + 3, lv_args 0 [.ref 16, .ref 2], [], b, 42559) :=
  sx_virt (r := []) (st := [.retAddr t, .ref 16]) (σ := a) (u := 42559) (v := none) (σ2 := b) (u2 := 42559) hd kr_2_37 ⟨Or.inl rfl, ow_3, cl_5⟩ (by rw [np_3]; rfl) ho (by decide) (by
    rw [np_3]
    exact sm_ev_none 20 20 100000 200000 3 _ _ _ _ (Nat.le_refl _) (by decide) (sf_ev_ok _ _ _ _ _ _ _ h))
set_option maxRecDepth 1000000 in
theorem nm_g0 : sf_go none (sf_ev none 20 200000) 2 md_2 31 [] (0, lv_args 0 [.ref 16, .ref 2], [], nm_pre ++ [.inr (5, sm_new 5)], 21055) = some (66, lv_args 0 [.ref 16, .ref 2], [.retAddr 0, .ref 16], nm_0, 42559) := by eq_refl
set_option maxRecDepth 1000000 in
theorem nm_g1 : sf_go none (sf_ev none 20 200000) 2 md_2 2 [] (69, lv_args 0 [.ref 16, .ref 2], [], nm_1, 42559) = some (72, lv_args 0 [.ref 16, .ref 2], [.retAddr 2, .ref 16], nm_1, 42559) := by eq_refl
set_option maxRecDepth 1000000 in
theorem nm_g2 : sf_go none (sf_ev none 20 200000) 2 md_2 2 [] (75, lv_args 0 [.ref 16, .ref 2], [], nm_2, 42559) = some (78, lv_args 0 [.ref 16, .ref 2], [.retAddr 4, .ref 16], nm_2, 42559) := by eq_refl
set_option maxRecDepth 1000000 in
theorem nm_g3 : sf_go none (sf_ev none 20 200000) 2 md_2 2 [] (81, lv_args 0 [.ref 16, .ref 2], [], nm_3, 42559) = some (84, lv_args 0 [.ref 16, .ref 2], [.retAddr 6, .ref 16], nm_3, 42559) := by eq_refl
theorem nm_init : sm_ev none 21 200000 2 [.ref 16, .ref 2] (nm_pre ++ [.inr (5, sm_new 5)]) 21055 = some (none, nm_4, 42559) := by
  rw [sx_ev (by decide +kernel)]
  refine (sf_go_at dq_2 (n := 199969) (by decide) nm_g0).trans ?_
  refine (nm_lesson (n := 199968) dc_2_66 rfl nm_learn0).trans ?_
  refine (sf_go_at dq_2 (n := 199966) (by decide) nm_g1).trans ?_
  refine (nm_lesson (n := 199965) dc_2_72 rfl nm_learn1).trans ?_
  refine (sf_go_at dq_2 (n := 199963) (by decide) nm_g2).trans ?_
  refine (nm_lesson (n := 199962) dc_2_78 rfl nm_learn2).trans ?_
  refine (sf_go_at dq_2 (n := 199960) (by decide) nm_g3).trans ?_
  refine (nm_lesson (n := 199959) dc_2_84 rfl nm_learn3).trans ?_
  exact sx_ret (n := 199958) dc_2_87 (by decide +kernel)
theorem sb_opt {R : Option sm_R} (h : R.map (fun r => r.1.isNone) = some true) : R = some (none, (R.map (fun r => r.2.1)).getD [], (R.map (fun r => r.2.2)).getD 0) := by
  cases R with
  | none => cases h
  | some r =>
    obtain ⟨v, h1, u1⟩ := r
    cases v with
    | none => rfl
    | some v => cases h
def sb_R1 : Option sm_R := sf_at none 29 200000 0 md_0 199983 (36, lv_args 0 [.ref 0], [.ref 16, .ref 0], nm_4, 42559)
def sb_h1 : sm_H := (sb_R1.map (fun r => r.2.1)).getD []
def sb_u1 : Nat := (sb_R1.map (fun r => r.2.2)).getD 0
theorem sb_e1 : sb_R1 = some (none, sb_h1, sb_u1) := sb_opt (by decide +kernel)
set_option maxRecDepth 1000000 in
theorem sb_g0 : sf_go none (sf_ev none 29 200000) 0 md_0 16 [] (0, lv_args 0 [.ref 0], [], [] ++ [.inr (11, sm_new 11)], 0 + (sm_T 11).2.2) = some (33, lv_args 0 [.ref 0], [.ref 2, .ref 16, .ref 16, .ref 0], nm_pre ++ [.inr (5, sm_new 5)], 21055) := by eq_refl
/-- the class's constructor -/
theorem sb_new : sm_ev none 30 200000 0 [.ref 0] ([] ++ [.inr (11, sm_new 11)]) (0 + (sm_T 11).2.2) = some (none, sb_h1, sb_u1) := by
  rw [sx_ev (by decide +kernel)]
  refine (sf_go_at dq_0 (n := 199984) (by decide) sb_g0).trans ?_
  refine (sx_spec (n := 199983) (r := [.ref 16, .ref 0]) (a := 16) dc_0_33 kr_0_22 (Or.inr rfl) (by rw [np_2]; rfl) (by decide) (by
    rw [np_2]
    exact sm_ev_none 21 29 200000 200000 2 _ _ _ _ (by decide) (Nat.le_refl _) nm_init)).trans ?_
  exact sf_at_ok dq_0 sb_e1
/-- the reference's place -/
def sb_m : Nat := sb_h1.length
def sb_R2 : Option sm_R := sf_ev none 30 200000 281 [.ref sb_m] (sb_h1 ++ [.inr (14, sm_new 14)]) (sb_u1 + (sm_T 14).2.2)
def sb_h2 : sm_H := (sb_R2.map (fun r => r.2.1)).getD []
def sb_u2 : Nat := (sb_R2.map (fun r => r.2.2)).getD 0
theorem sb_e2 : sb_R2 = some (none, sb_h2, sb_u2) := sb_opt (by decide +kernel)
