/-! THE TOKENS OF A TEXT, pure: bytes β, n of them.  A token is (kind, end): the kinds are the class's: 0 none, 1 end, 2 end of line, 3 name, 4 number, 5 text, 6 to 29 signs, 40 + q the word q -/
def tk_al (b : Nat) : Bool := c_let b || c_dig b
def tk_in (b : Nat) : Bool := !(Nat.beq b 39) && (Nat.ble 32 b && Nat.ble b 126)
def tk_eol (β : Nat → Nat) (n p : Nat) : Nat := p + t_run (fun b => !(Nat.beq b 10)) β n (n - p) p
def tk_val (β : Nat → Nat) (p : Nat) : Nat → Nat
  | 0 => 0
  | m + 1 => 10 * tk_val β p m + (β (p + m) - 48)
/-- the bytes f, m of them, are the word with this text -/
def tk_isw (f : Nat → Nat) (m t : Nat) : Prop := m = tx_n t ∧ ∀ i, i < m → f i = tx_c t i
def tk_iswB (f : Nat → Nat) (m t : Nat) : Bool := Nat.beq m (tx_n t) && (List.range m).all (fun i => Nat.beq (f i) (tx_c t i))
theorem tk_isw_iff {f : Nat → Nat} {m t : Nat} : tk_iswB f m t = true ↔ tk_isw f m t := by
  unfold tk_iswB tk_isw
  simp only [Bool.and_eq_true, Nat.beq_eq, List.all_eq_true, List.mem_range]
/-- which of some words: its number from q on; behind the last if none -/
def tk_wd (f : Nat → Nat) (m : Nat) : List Nat → Nat → Nat
  | [], q => q
  | t :: r, q => if tk_iswB f m t = true then q else tk_wd f m r (q + 1)
theorem tk_wd_ok {f : Nat → Nat} {m : Nat} : ∀ (l : List Nat) (q : Nat), (∃ i t, tk_wd f m l q = q + i ∧ i < l.length ∧ l[i]? = some t ∧ tk_isw f m t) ∨ (tk_wd f m l q = q + l.length ∧ ∀ t, t ∈ l → ¬ tk_isw f m t) := by
  intro l
  induction l with
  | nil => intro q; exact Or.inr ⟨rfl, fun t ht => by cases ht⟩
  | cons a r ih =>
    intro q
    unfold tk_wd
    split
    · rename_i h
      exact Or.inl ⟨0, a, rfl, by simp, rfl, tk_isw_iff.mp h⟩
    · rename_i h
      rcases ih (q + 1) with ⟨i, t, h1, h2, h3, h4⟩ | ⟨h1, h2⟩
      · exact Or.inl ⟨i + 1, t, by rw [h1]; omega, by simp only [List.length_cons]; omega, h3, h4⟩
      · refine Or.inr ⟨by rw [h1, List.length_cons]; omega, fun t ht => ?_⟩
        rcases List.mem_cons.mp ht with rfl | ht
        · exact fun c => h (tk_isw_iff.mpr c)
        · exact h2 t ht
def tk_word (f : Nat → Nat) (m : Nat) : Nat := tk_wd f m w_tx 0
theorem tk_word_ok (f : Nat → Nat) (m : Nat) : (tk_word f m < 24 ∧ ∃ t, w_tx[tk_word f m]? = some t ∧ tk_isw f m t) ∨ (tk_word f m = 24 ∧ ∀ t, t ∈ w_tx → ¬ tk_isw f m t) := by
  have hl : w_tx.length = 24 := rfl
  rcases tk_wd_ok (f := f) (m := m) w_tx 0 with ⟨i, t, h1, h2, h3, h4⟩ | ⟨h1, h2⟩
  · refine Or.inl ⟨by unfold tk_word; omega, t, ?_, h4⟩
    unfold tk_word
    rw [h1, Nat.zero_add]
    exact h3
  · exact Or.inr ⟨by unfold tk_word; omega, h2⟩
/-- the number of a sign; 0 if there is none -/
def tk_sg (b c : Nat) : Nat := if b = 47 ∧ c = 47 then 22 else if c = 61 ∧ c_signEq b ≠ 0 then c_signEq b else c_signOne b
def tk_nmN (β : Nat → Nat) (n p : Nat) : Nat := t_run tk_al β n (n - p) p
def tk_dgN (β : Nat → Nat) (n p : Nat) : Nat := t_run c_dig β n (n - p) p
def tk_txN (β : Nat → Nat) (n p : Nat) : Nat := t_run tk_in β n (n - (p + 1)) (p + 1)
def tk_at (β : Nat → Nat) (n p : Nat) : Nat := if p < n then β p else 0
/-- the token that begins at p: its kind, its end -/
def tk (β : Nat → Nat) (n p : Nat) : Nat × Nat :=
  if n ≤ p ∨ β p = 10 ∨ β p = 35 then (2, p)
  else if c_let (β p) = true then
    if 12 < tk_nmN β n p then (0, p + tk_nmN β n p)
    else if tk_word (fun i => β (p + i)) (tk_nmN β n p) < 24 then (40 + tk_word (fun i => β (p + i)) (tk_nmN β n p), p + tk_nmN β n p)
    else (3, p + tk_nmN β n p)
  else if c_dig (β p) = true then
    if 9223372036854775807 < tk_val β p (tk_dgN β n p) then (0, p + tk_dgN β n p) else (4, p + tk_dgN β n p)
  else if β p = 39 then
    if p + 1 + tk_txN β n p < n ∧ β (p + 1 + tk_txN β n p) = 39 ∧ tk_txN β n p ≤ 15 then (5, p + 1 + tk_txN β n p + 1) else (0, tk_eol β n p)
  else if tk_sg (β p) (tk_at β n (p + 1)) = 0 then (0, p + 1)
  else if 22 ≤ tk_sg (β p) (tk_at β n (p + 1)) then (tk_sg (β p) (tk_at β n (p + 1)), p + 2)
  else (tk_sg (β p) (tk_at β n (p + 1)), p + 1)
/-- a run up to its end -/
theorem t_run_end {P : Nat → Bool} {β : Nat → Nat} {n p : Nat} (hp : p ≤ n) : p + t_run P β n (n - p) p ≤ n ∧ (∀ x, x < t_run P β n (n - p) p → P (β (p + x)) = true) ∧ (p + t_run P β n (n - p) p = n ∨ P (β (p + t_run P β n (n - p) p)) = false) := by
  obtain ⟨h1, h2, h3⟩ := t_run_ok P β n (n - p) p
  refine ⟨by omega, fun x hx => (h2 x hx).2, ?_⟩
  rcases h3 with h3 | h3
  · exact Or.inl (by omega)
  · by_cases h4 : p + t_run P β n (n - p) p < n
    · refine Or.inr ?_
      cases h5 : P (β (p + t_run P β n (n - p) p)) with
      | false => rfl
      | true => exact absurd ⟨h4, h5⟩ h3
    · exact Or.inl (by omega)
theorem t_run_1 {P : Nat → Bool} {β : Nat → Nat} {n p : Nat} (hp : p < n) (h : P (β p) = true) : 1 ≤ t_run P β n (n - p) p := by
  obtain ⟨f, hf⟩ : ∃ f, n - p = f + 1 := ⟨n - p - 1, by omega⟩
  rw [hf]
  unfold t_run
  rw [if_pos ⟨hp, h⟩]
  omega
theorem tk_eol_ok {β : Nat → Nat} {n p : Nat} (hp : p ≤ n) : p ≤ tk_eol β n p ∧ tk_eol β n p ≤ n ∧ (∀ x, p ≤ x → x < tk_eol β n p → β x ≠ 10) ∧ (tk_eol β n p = n ∨ β (tk_eol β n p) = 10) := by
  obtain ⟨h1, h2, h3⟩ := t_run_end (P := fun b => !(Nat.beq b 10)) (β := β) hp
  refine ⟨by unfold tk_eol; omega, h1, fun x hx hx2 e => ?_, h3.imp id (fun h => ?_)⟩
  · have := h2 (x - p) (by unfold tk_eol at hx2; omega)
    rw [show p + (x - p) = x by omega, e] at this
    cases this
  · unfold tk_eol
    cases h4 : Nat.beq (β (p + t_run (fun b => !(Nat.beq b 10)) β n (n - p) p)) 10 with
    | false => rw [h4] at h; cases h
    | true => exact Nat.beq_eq.mp h4
theorem signOne_r (b : Nat) : c_signOne b = 0 ∨ (6 ≤ c_signOne b ∧ c_signOne b ≤ 21) := by
  unfold c_signOne
  by_cases h37 : b = 37
  · rw [if_pos h37]; omega
  rw [if_neg h37]
  by_cases h40 : b = 40
  · rw [if_pos h40]; omega
  rw [if_neg h40]
  by_cases h41 : b = 41
  · rw [if_pos h41]; omega
  rw [if_neg h41]
  by_cases h42 : b = 42
  · rw [if_pos h42]; omega
  rw [if_neg h42]
  by_cases h43 : b = 43
  · rw [if_pos h43]; omega
  rw [if_neg h43]
  by_cases h44 : b = 44
  · rw [if_pos h44]; omega
  rw [if_neg h44]
  by_cases h45 : b = 45
  · rw [if_pos h45]; omega
  rw [if_neg h45]
  by_cases h46 : b = 46
  · rw [if_pos h46]; omega
  rw [if_neg h46]
  by_cases h58 : b = 58
  · rw [if_pos h58]; omega
  rw [if_neg h58]
  by_cases h60 : b = 60
  · rw [if_pos h60]; omega
  rw [if_neg h60]
  by_cases h61 : b = 61
  · rw [if_pos h61]; omega
  rw [if_neg h61]
  by_cases h62 : b = 62
  · rw [if_pos h62]; omega
  rw [if_neg h62]
  by_cases h91 : b = 91
  · rw [if_pos h91]; omega
  rw [if_neg h91]
  by_cases h93 : b = 93
  · rw [if_pos h93]; omega
  rw [if_neg h93]
  by_cases h123 : b = 123
  · rw [if_pos h123]; omega
  rw [if_neg h123]
  by_cases h125 : b = 125
  · rw [if_pos h125]; omega
  rw [if_neg h125]
  exact Or.inl rfl
theorem signEq_r (b : Nat) : c_signEq b = 0 ∨ (23 ≤ c_signEq b ∧ c_signEq b ≤ 29) := by
  unfold c_signEq
  by_cases h33 : b = 33
  · rw [if_pos h33]; omega
  rw [if_neg h33]
  by_cases h42 : b = 42
  · rw [if_pos h42]; omega
  rw [if_neg h42]
  by_cases h43 : b = 43
  · rw [if_pos h43]; omega
  rw [if_neg h43]
  by_cases h45 : b = 45
  · rw [if_pos h45]; omega
  rw [if_neg h45]
  by_cases h60 : b = 60
  · rw [if_pos h60]; omega
  rw [if_neg h60]
  by_cases h61 : b = 61
  · rw [if_pos h61]; omega
  rw [if_neg h61]
  by_cases h62 : b = 62
  · rw [if_pos h62]; omega
  rw [if_neg h62]
  exact Or.inl rfl
theorem tk_sg_r (b c : Nat) : tk_sg b c = 0 ∨ (6 ≤ tk_sg b c ∧ tk_sg b c ≤ 29) := by
  have h1 := signOne_r b
  have h2 := signEq_r b
  unfold tk_sg
  split
  · omega
  · split
    · omega
    · omega
theorem tk_sg_2 {b c : Nat} (h : 22 ≤ tk_sg b c) : c = 47 ∨ c = 61 := by
  have h2 := signOne_r b
  unfold tk_sg at h
  split at h
  · rename_i h3; exact Or.inl h3.2
  · split at h
    · rename_i h3; exact Or.inr h3.1
    · omega
/-- where a token ends -/
theorem tk_end {β : Nat → Nat} {n p : Nat} (hp : p ≤ n) : p ≤ (tk β n p).2 ∧ (tk β n p).2 ≤ n ∧ ((tk β n p).1 = 2 ∧ (tk β n p).2 = p ∨ (tk β n p).1 ≠ 2 ∧ p < (tk β n p).2) := by
  unfold tk
  split
  · exact ⟨Nat.le_refl _, hp, Or.inl ⟨rfl, rfl⟩⟩
  rename_i h0
  have hpn : p < n := by
    rcases Nat.lt_or_ge p n with h | h
    · exact h
    · exact absurd (Or.inl h) h0
  split
  · rename_i hL
    have h1 := t_run_end (P := tk_al) (β := β) hp
    have h2 := t_run_1 (P := tk_al) (β := β) hpn (by unfold tk_al; rw [hL]; rfl)
    have h3 : tk_nmN β n p = t_run tk_al β n (n - p) p := rfl
    split
    · exact ⟨by omega, by omega, Or.inr ⟨by dsimp only; omega, by omega⟩⟩
    · split
      · exact ⟨by omega, by omega, Or.inr ⟨by show 40 + _ ≠ 2; omega, by omega⟩⟩
      · exact ⟨by omega, by omega, Or.inr ⟨by dsimp only; omega, by omega⟩⟩
  split
  · rename_i hD
    have h1 := t_run_end (P := c_dig) (β := β) hp
    have h2 := t_run_1 (P := c_dig) (β := β) hpn hD
    have h3 : tk_dgN β n p = t_run c_dig β n (n - p) p := rfl
    split
    · exact ⟨by omega, by omega, Or.inr ⟨by dsimp only; omega, by omega⟩⟩
    · exact ⟨by omega, by omega, Or.inr ⟨by dsimp only; omega, by omega⟩⟩
  split
  · rename_i h39
    split
    · rename_i hg
      exact ⟨by omega, by omega, Or.inr ⟨by dsimp only; omega, by omega⟩⟩
    · obtain ⟨h1, h2, h3, h4⟩ := tk_eol_ok (β := β) hp
      refine ⟨h1, h2, Or.inr ⟨by dsimp only; omega, ?_⟩⟩
      show p < tk_eol β n p
      rcases h4 with h4 | h4
      · omega
      · rcases Nat.lt_or_ge p (tk_eol β n p) with h5 | h5
        · exact h5
        · have h6 : tk_eol β n p = p := by omega
          rw [h6, h39] at h4
          cases h4
  split
  · exact ⟨by omega, by omega, Or.inr ⟨by dsimp only; omega, by omega⟩⟩
  split
  · rename_i h0 h22
    have h5 : p + 1 < n := by
      rcases Nat.lt_or_ge (p + 1) n with h | h
      · exact h
      · have h7 := tk_sg_2 h22
        unfold tk_at at h7
        rw [if_neg (by omega)] at h7
        omega
    exact ⟨by omega, by omega, Or.inr ⟨by show tk_sg _ _ ≠ 2; omega, by show p < p + 2; omega⟩⟩
  · have h7 := tk_sg_r (β p) (tk_at β n (p + 1))
    exact ⟨by omega, by omega, Or.inr ⟨by show tk_sg _ _ ≠ 2; omega, by show p < p + 1; omega⟩⟩
theorem tk_kind {β : Nat → Nat} {n p : Nat} : (tk β n p).1 ≠ 1 ∧ (tk β n p).1 < 64 := by
  have h1 := tk_sg_r (β p) (tk_at β n (p + 1))
  unfold tk
  repeat' split
  all_goals (constructor <;> (dsimp only; omega))
