/-! DEEDS ON BOTH SIDES: an item read -/
section
variable {P : Nat → Prop} {T : cS} {gT : Nat} {Q : Nat → Prop} {β : Nat → Nat} {F : Nat → Nat → Nat → Prop} {loc par : Nat → Nat → Nat} {ty : Nat → Nat × Nat} {G : Nat → Nat → Nat → Nat × Nat × LL → Prop} {D K : List Nat} {z nn g0 g1 g3 g4 g5 gn d d' v o t tp i nt op : Nat} {tq : Nat → Nat × Nat} {C r : List Lv} {x : Lv} {s' : Nat × Nat × LL} {Sc Sr S S' W : cS} {hi lo kh kl a b w h1 l1 h0 l0 : Int64} {kd : Int32} {p : Sum Nat Nat}
/-- an item of h1, l1 at h0, l0 -/
def ixQ (S : cS) (h1 l1 h0 l0 : Int64) (q : Sum Nat (Int64 × Int64)) : Prop :=
  (c_kind h1 = nI 3 ∧ ((c_kind h0 ≠ nI 2 ∧ q = .inl 2) ∨ (c_kind h0 = nI 2 ∧ q = (match ixR l0 (c_len h1) with | some i => .inr (c_appHi 3458764513820540928 (c_bt h1 l1 i), 0) | none => .inl 3)))) ∨
  (c_kind h1 ≠ nI 3 ∧ ∃ o p, o ≤ 1500 ∧ c_obj h1 l1 = nI o ∧ (o = 0 ∨ lv S o) ∧ lcQ S o h0 l0 p ∧ q = (match p with | .inl e => .inl e | .inr i => .inr (h_hi S o i, h_lo S o i)))
theorem lcQ_i (h : lcQ S o hi lo (.inr i)) : (h_kd S o = 1 ∨ h_kd S o = 2) ∧ i < h_n S o := by
  rcases h with ⟨_, _, e⟩ | ⟨_, _, e⟩ | ⟨c, _, e⟩ | ⟨_, _, _, e⟩ | ⟨_, _, e, _⟩ | ⟨c, _, j, j1, e, _⟩
  · cases e
  · cases e
  · refine ⟨Or.inl c, ?_⟩
    unfold ixR at e
    split at e
    · rename_i hx
      split at hx
      · rename_i hc
        injection hx with hx
        injection e with e
        subst e
        subst hx
        obtain ⟨c1, c2⟩ := hc
        have e0 : (0 : Int64).toInt = 0 := by decide
        have h1 : ¬ (eW lo (h_n S o)).toInt < 0 := fun c => c1 (Int64.lt_iff_toInt_lt.mpr (by rw [e0]; exact c))
        have h2 := Int64.lt_iff_toInt_lt.mp c2
        by_cases hb : h_n S o < 2 ^ 63
        · rw [lN_t hb] at h2
          omega
        · have := Int64.toInt_lt (eW lo (h_n S o))
          omega
      · cases hx
    · cases e
  · cases e
  · cases e
  · injection e with e
    subst e
    exact ⟨Or.inr c, j1⟩
theorem lcQ_e {e : Nat} (h : lcQ S o hi lo (.inl e)) : 2 ≤ e ∧ e ≤ 4 := by
  rcases h with ⟨_, _, c⟩ | ⟨_, _, c⟩ | ⟨_, _, c⟩ | ⟨_, _, _, c⟩ | ⟨_, _, c, _⟩ | ⟨_, _, j, j1, c, _⟩
  · injection c with c; omega
  · injection c with c; omega
  · cases hx : ixR lo (h_n S o) with
    | some i => rw [hx] at c; cases c
    | none => rw [hx] at c; injection c with c; omega
  · injection c with c; omega
  · injection c with c; omega
  · cases c
theorem k_nn (e : Nat) : -(-(nI e)) = nI e := Int32.neg_neg
theorem lcC_e {e : Nat} (he : 1 ≤ e ∧ e ≤ 99) : sm_c1 .ge (lcC (.inl e)) true false = false ∧ sm_c1 .lt (lcC (.inl e)) true false = true := by
  have : ∀ e, e < 100 → 1 ≤ e → sm_c1 .ge (-(nI e)) true false = false ∧ sm_c1 .lt (-(nI e)) true false = true := by decide +kernel
  exact this e (by omega) he.1
theorem lcC_i {i : Nat} (hi : i ≤ 300) : sm_c1 .ge (lcC (.inr i)) true false = true ∧ sm_c1 .lt (lcC (.inr i)) true false = false := by
  have : ∀ e, e < 301 → sm_c1 .ge (nI e) true false = true ∧ sm_c1 .lt (nI e) true false = false := by decide +kernel
  exact this i (by omega)
theorem c_len_le (hi : Int64) : c_len hi ≤ 15 := by
  have := (c_len_eq hi).2
  omega
/-- what an item read is: no builtin -/
theorem ixQ_v (h : CI F loc par ty G tq (x :: r) S) (hq : ixQ S h1 l1 h0 l0 (.inr (hi, lo))) : (c_kind hi ≠ 0 ∧ c_kind hi ≠ nI 5) ∧ ∃ o, c_obj hi lo = nI o ∧ o ≤ 1500 ∧ (o = 0 ∨ lv S o) := by
  rcases hq with ⟨_, ⟨_, e⟩ | ⟨_, e⟩⟩ | ⟨_, o, p, _, _, o3, hp, e⟩
  · cases e
  · cases hx : ixR l0 (c_len h1) with
    | none => rw [hx] at e; cases e
    | some i =>
      rw [hx] at e
      injection e with e
      injection e with e1 e2
      obtain ⟨q, q1, q2⟩ := bt_n h1 l1 i
      rw [q2] at e1
      obtain ⟨k1, k2⟩ := one_k q q1
      rw [e1, e2]
      exact ⟨by rw [k1]; decide, 0, k2, by omega, Or.inl rfl⟩
  · cases p with
    | inl e' => cases e
    | inr i =>
      injection e with e
      injection e with e1 e2
      obtain ⟨hk, hi2⟩ := lcQ_i hp
      have hl : lv S o := by
        rcases o3 with e0 | h
        · subst e0
          obtain ⟨_, _, _, _, _, _, _, _, _, _, z0⟩ := h.1.1.2.1
          unfold h_kd at hk
          rw [z0] at hk
          exact absurd hk (by decide)
        · exact h
      have hv := (h.2.2.2.1 o hl).2.1 i hi2
      have h7 : sA S 3 o ≠ nI 7 := fun c => by
        unfold h_kd at hk
        rw [c] at hk
        revert hk
        decide
      rw [e1, e2]
      refine ⟨⟨hv.2 h7, hv.1⟩, ?_⟩
      have hok := mHS_ok h.1 o hl.1 hl.2.1
      have hen : h_ent S o i ∈ tgs S o := List.mem_cons_of_mem _ (List.mem_cons_of_mem _ (seqN_in (Nat.zero_le _) (by omega)))
      have hcl := mHS_cl h.1 o hl.1 hl.2.1 hl.2.2 _ hen
      obtain ⟨kd, z, a, N, g1, g2, g3, g4, g5, g6, g7, g8, g9, _⟩ := row_o hok (by omega)
      have hok' := hok
      obtain ⟨kd', z', x', y', m1, m2, m3, _, _, _, _, m8, m9, m10, m11⟩ := hok'
      obtain ⟨N', _, _, _, _, n5⟩ := m11 a g8
      have ek : kd' = kd := nI_j (by omega) (by omega) (m2.symm.trans g3)
      have hz' := c_most_le kd'
      have ez : z' = z := nI_j (by omega) (by omega) (m3.symm.trans g4)
      obtain ⟨oo, o1, o2⟩ := n5 i (by omega)
      have e3 : h_ent S o i = oo := by
        unfold h_ent h_hi h_lo
        rw [g9, g5, ← ek]
        exact ob_n o2 o1
      refine ⟨oo, ?_, o1, ?_⟩
      · unfold h_hi h_lo
        rw [g9, g5, ← ek]
        exact o2
      · rw [← e3]
        exact hcl
/-- an item read: the class -/
theorem ix_C (h : CI F loc par ty G tq (x :: r) S) (h2 : 2 ≤ vH x) (hop : op = 39 ∧ nt = 2 ∨ op = 40 ∧ nt = 0) : ∃ q, ixQ S (sL S 47 (topC (x :: r) - 1 - 1)) (sL S 48 (topC (x :: r) - 1 - 1)) (sL S 47 (topC (x :: r) - 1 - 0)) (sL S 48 (topC (x :: r) - 1 - 0)) q ∧ (∀ e, q = .inl e → (1 ≤ e ∧ e ≤ 99) ∧ Ans (d + 14) 189 [.ref 53, .int (nI op)] S (some (.int (nI e))) S) ∧ ∀ hi lo S', q = .inr (hi, lo) → Ans (d + 11) 148 [.ref 46, .int (nI nt), .long hi, .long lo] S (some (.int (nI 0))) S' → Ans (d + 14) 189 [.ref 53, .int (nI op)] S (some (.int (nI 0))) S' := by
  have m189 := ml_189
  have m207 := ml_207
  have m209 := ml_209
  obtain ⟨c1, c2, c3, c4, c5⟩ := CI_len h
  have q1 := hi_ev (d := d + 9) (b := 1) c3 (by omega) (by omega)
  have qk := kindOf_ev (d := d + 10) (S := S) (hi := sL S 47 (topC (x :: r) - 1 - 1))
  have q0 := hi_ev (d := d + 9) (b := 0) c3 (by omega) (by omega)
  have qk0 := kindOf_ev (d := d + 10) (S := S) (hi := sL S 47 (topC (x :: r) - 1 - 0))
  have w0 := lo_ev (d := d + 9) (b := 0) c3 (by omega) (by omega)
  have w1 := lo_ev (d := d + 9) (b := 1) c3 (by omega) (by omega)
  have nt2 : nt < 2 ^ 20 := by omega
  have goS : c_kind (sL S 47 (topC (x :: r) - 1 - 1)) = nI 3 → ∀ e S', Ans (d + 13) 207 [.ref 53, .int (nI nt)] S (some (.int (nI e))) S' → Ans (d + 14) 189 [.ref 53, .int (nI op)] S (some (.int (nI e))) S' := fun hk e S' hA => by
    refine Ans.of (by rw [m189]; exact Nat.le_of_ble_eq_true rfl) (Bod.lv (by rfl) ?_)
    rcases hop with ⟨e1, e2⟩ | ⟨e1, e2⟩
    · rw [e2] at hA
      exact mAc_16 (d := d + 5) (by omega) e1 (q1.up (by omega)) (qk.up (by omega)) hk hA
    · rw [e2] at hA
      exact mAc_18 (d := d + 5) (by omega) e1 (q1.up (by omega)) (qk.up (by omega)) hk hA
  have goO : c_kind (sL S 47 (topC (x :: r) - 1 - 1)) ≠ nI 3 → ∀ e S', Ans (d + 13) 209 [.ref 53, .int (nI nt)] S (some (.int (nI e))) S' → Ans (d + 14) 189 [.ref 53, .int (nI op)] S (some (.int (nI e))) S' := fun hk e S' hA => by
    refine Ans.of (by rw [m189]; exact Nat.le_of_ble_eq_true rfl) (Bod.lv (by rfl) ?_)
    rcases hop with ⟨e1, e2⟩ | ⟨e1, e2⟩
    · rw [e2] at hA
      exact mAc_17 (d := d + 5) (by omega) e1 (q1.up (by omega)) (qk.up (by omega)) hk hA
    · rw [e2] at hA
      exact mAc_19 (d := d + 5) (by omega) e1 (q1.up (by omega)) (qk.up (by omega)) hk hA
  by_cases k3 : c_kind (sL S 47 (topC (x :: r) - 1 - 1)) = nI 3
  · by_cases k2 : c_kind (sL S 47 (topC (x :: r) - 1 - 0)) = nI 2
    · have hlen := c_len_le (sL S 47 (topC (x :: r) - 1 - 1))
      have ql := lengthOf_ev (d := d + 11) (S := S) (hi := sL S 47 (topC (x :: r) - 1 - 1)) rfl
      have qe := en_C (d := d + 3) (S := S) (u := sL S 48 (topC (x :: r) - 1 - 0)) (n := c_len (sL S 47 (topC (x :: r) - 1 - 1))) (by omega)
      cases hx : ixR (sL S 48 (topC (x :: r) - 1 - 0)) (c_len (sL S 47 (topC (x :: r) - 1 - 1))) with
      | none =>
        rw [hx] at qe
        refine ⟨.inl 3, Or.inl ⟨k3, Or.inr ⟨k2, by rw [hx]⟩⟩, fun e he => ?_, fun hi lo S' he => by cases he⟩
        injection he with he
        subst he
        refine ⟨by omega, goS k3 3 S (Ans.of (by rw [m207]; exact Nat.le_of_ble_eq_true rfl) (Bod.lv (by rfl) ?_))⟩
        have := mIs_2 (d := d + 4) (nt := nt) (by omega) (q1.up (by omega)) (q0.up (by omega)) (qk0.up (by omega)) k2 (w0.up (by omega)) (by omega) (ql.up (by omega)) (qe.up (by omega)) (by decide)
        exact this
      | some i =>
        rw [hx] at qe
        obtain ⟨i1, _⟩ := ix_some (by omega) hx
        obtain ⟨qb, b1, b2⟩ := bt_n (sL S 47 (topC (x :: r) - 1 - 1)) (sL S 48 (topC (x :: r) - 1 - 1)) i
        refine ⟨.inr _, Or.inl ⟨k3, Or.inr ⟨k2, by rw [hx]⟩⟩, (fun e he => by cases he), fun hi lo S' he hg => ?_⟩
        injection he with he
        injection he with he1 he2
        subst he1 he2
        refine goS k3 0 S' (Ans.of (by rw [m207]; exact Nat.le_of_ble_eq_true rfl) (Bod.lv (by rfl) ?_))
        exact mIs_1 (d := d + 4) (nt := nt) (by omega) (q1.up (by omega)) (q0.up (by omega)) (qk0.up (by omega)) k2 (w0.up (by omega)) (by omega) (ql.up (by omega)) (qe.up (by omega)) (lcC_i (by omega)).1 (w1.up (by omega)) ((bt_ev (d := 0) (by omega)).up (by omega)) ((one_C (d := 0) _).up (by omega)) (hg.up (by omega))
    · refine ⟨.inl 2, Or.inl ⟨k3, Or.inl ⟨k2, rfl⟩⟩, fun e he => ?_, fun hi lo S' he => by cases he⟩
      injection he with he
      subst he
      exact ⟨by omega, goS k3 2 S (Ans.of (by rw [m207]; exact Nat.le_of_ble_eq_true rfl) (Bod.lv (by rfl) (mIs_3 (d := d + 4) (nt := nt) (by omega) (q1.up (by omega)) (q0.up (by omega)) (qk0.up (by omega)) k2)))⟩
  · obtain ⟨p, ⟨o, o1, o2, o3, o4⟩, hA⟩ := loc_C (d := d) h (ob_ := 1) (kb := 0) (by omega) (by omega)
    have qo := object_n (d := d + 8) (b := 1) c3 (by omega) (by omega) o2
    cases p with
    | inl e =>
      have he := lcQ_e o4
      refine ⟨.inl e, Or.inr ⟨k3, o, .inl e, o1, o2, o3, o4, rfl⟩, fun e' he' => ?_, fun hi lo S' he => by cases he⟩
      injection he' with he'
      subst he'
      refine ⟨by omega, goO k3 e S (Ans.of (by rw [m209]; exact Nat.le_of_ble_eq_true rfl) (Bod.lv (by rfl) ?_))⟩
      have := mIx_2 (d := d + 4) (nt := nt) (by omega) hA (lcC_e (by omega)).1
      rw [show -(lcC (.inl e)) = nI e from k_nn e] at this
      exact this
    | inr i =>
      obtain ⟨hk, hi2⟩ := lcQ_i o4
      have hl : lv S o := by
        rcases o3 with e0 | h'
        · subst e0
          obtain ⟨_, _, _, _, _, _, _, _, _, _, z0⟩ := h.1.1.2.1
          unfold h_kd at hk
          rw [z0] at hk
          exact absurd hk (by decide)
        · exact h'
      have hok := mHS_ok h.1 o hl.1 hl.2.1
      have hn3 := h_n_le hok
      obtain ⟨e1, e2⟩ := ent_C (d := d + 9) hl hok hi2
      refine ⟨.inr (h_hi S o i, h_lo S o i), Or.inr ⟨k3, o, .inr i, o1, o2, o3, o4, rfl⟩, (fun e he => by cases he), fun hi lo S' he hg => ?_⟩
      injection he with he
      injection he with he1 he2
      subst he1 he2
      refine goO k3 0 S' (Ans.of (by rw [m209]; exact Nat.le_of_ble_eq_true rfl) (Bod.lv (by rfl) ?_))
      exact mIx_1 (d := d + 4) (nt := nt) (by omega) hA (lcC_i (by omega)).1 (by omega) (qo.up (by omega)) e1 e2 (hg.up (by omega))
end
