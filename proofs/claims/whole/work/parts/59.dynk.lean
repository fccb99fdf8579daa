/-! ARRAYS OF ANY PLACE; fields of what was made -/

/-- the kind and the length of the fixed arrays that can be followed by longer ones -/
def fixK (a : Nat) : Option (Nat × Nat) := if a = 62 then some (2, 768) else if a = 63 then some (0, 64) else if a = 64 then some (0, 64) else if a = 65 then some (1, 64) else if a = 66 then some (1, 64) else if a = 79 then some (0, 64) else if a = 80 then some (0, 64) else none
def isK (S : cS) (a t N : Nat) : Prop := a < 108 ∧ fixK a = some (t, N) ∨ 108 ≤ a ∧ (sS S)[a - 108]? = some (t, N)
theorem isK_S {S S' : cS} {a t N : Nat} (e : sS S' = sS S) (h : isK S a t N) : isK S' a t N := h.imp id (fun h => ⟨h.1, by rw [e]; exact h.2⟩)
theorem sS_old {S S' : cS} {i : Nat} {x : Nat × Nat} {l : List (Nat × Nat)} (e : sS S' = sS S ++ l) (h : (sS S)[i]? = some x) : (sS S')[i]? = some x := by
  rw [e, List.getElem?_append_left]
  · exact h
  · rcases Nat.lt_or_ge i (sS S).length with q | q
    · exact q
    · rw [List.getElem?_eq_none q] at h; cases h
theorem isK_K {S S' : cS} {a t N : Nat} {l : List (Nat × Nat)} (e : sS S' = sS S ++ l) (h : isK S a t N) : isK S' a t N := h.imp id (fun h => ⟨h.1, sS_old e h.2⟩)
theorem mk_isI {S : cS} {a N : Nat} (h : isK S a 0 N) : (mk S)[a]? = some (.inl (0, N, .inl (sA S a))) := by
  rcases h with ⟨h1, h2⟩ | ⟨h1, h2⟩
  · skip
    by_cases h62 : a = 62
    · subst h62
      exact absurd (Option.some.inj (congrArg (Option.map Prod.fst) h2)) (show ¬ (2 : Nat) = 0 by decide)
    · skip
      by_cases h63 : a = 63
      · subst h63
        obtain rfl : 64 = N := by have := congrArg (Option.map Prod.snd) h2; exact Option.some.inj this
        exact mk_63 S
      · skip
        by_cases h64 : a = 64
        · subst h64
          obtain rfl : 64 = N := by have := congrArg (Option.map Prod.snd) h2; exact Option.some.inj this
          exact mk_64 S
        · skip
          by_cases h65 : a = 65
          · subst h65
            exact absurd (Option.some.inj (congrArg (Option.map Prod.fst) h2)) (show ¬ (1 : Nat) = 0 by decide)
          · skip
            by_cases h66 : a = 66
            · subst h66
              exact absurd (Option.some.inj (congrArg (Option.map Prod.fst) h2)) (show ¬ (1 : Nat) = 0 by decide)
            · skip
              by_cases h79 : a = 79
              · subst h79
                obtain rfl : 64 = N := by have := congrArg (Option.map Prod.snd) h2; exact Option.some.inj this
                exact mk_79 S
              · skip
                by_cases h80 : a = 80
                · subst h80
                  obtain rfl : 64 = N := by have := congrArg (Option.map Prod.snd) h2; exact Option.some.inj this
                  exact mk_80 S
                · skip
                  unfold fixK at h2
                  rw [if_neg h62, if_neg h63, if_neg h64, if_neg h65, if_neg h66, if_neg h79, if_neg h80] at h2
                  cases h2
  · exact mk_int h1 h2
theorem sa_isI {S : cS} {a N i : Nat} {v : Int32} (h : isK S a 0 N) : (mk S).set a (.inl (0, N, .inl (upd (sA S a) i v))) = mk (wA a i v S) := by
  rcases h with ⟨h1, h2⟩ | ⟨h1, h2⟩
  · skip
    by_cases h62 : a = 62
    · subst h62
      exact absurd (Option.some.inj (congrArg (Option.map Prod.fst) h2)) (show ¬ (2 : Nat) = 0 by decide)
    · skip
      by_cases h63 : a = 63
      · subst h63
        obtain rfl : 64 = N := by have := congrArg (Option.map Prod.snd) h2; exact Option.some.inj this
        exact sa_63 S i v
      · skip
        by_cases h64 : a = 64
        · subst h64
          obtain rfl : 64 = N := by have := congrArg (Option.map Prod.snd) h2; exact Option.some.inj this
          exact sa_64 S i v
        · skip
          by_cases h65 : a = 65
          · subst h65
            exact absurd (Option.some.inj (congrArg (Option.map Prod.fst) h2)) (show ¬ (1 : Nat) = 0 by decide)
          · skip
            by_cases h66 : a = 66
            · subst h66
              exact absurd (Option.some.inj (congrArg (Option.map Prod.fst) h2)) (show ¬ (1 : Nat) = 0 by decide)
            · skip
              by_cases h79 : a = 79
              · subst h79
                obtain rfl : 64 = N := by have := congrArg (Option.map Prod.snd) h2; exact Option.some.inj this
                exact sa_79 S i v
              · skip
                by_cases h80 : a = 80
                · subst h80
                  obtain rfl : 64 = N := by have := congrArg (Option.map Prod.snd) h2; exact Option.some.inj this
                  exact sa_80 S i v
                · skip
                  unfold fixK at h2
                  rw [if_neg h62, if_neg h63, if_neg h64, if_neg h65, if_neg h66, if_neg h79, if_neg h80] at h2
                  cases h2
  · exact sa_int h1 h2
theorem mk_isB {S : cS} {a N : Nat} (h : isK S a 2 N) : (mk S)[a]? = some (.inl (2, N, .inl (sA S a))) := by
  rcases h with ⟨h1, h2⟩ | ⟨h1, h2⟩
  · skip
    by_cases h62 : a = 62
    · subst h62
      obtain rfl : 768 = N := by have := congrArg (Option.map Prod.snd) h2; exact Option.some.inj this
      exact mk_62 S
    · skip
      by_cases h63 : a = 63
      · subst h63
        exact absurd (Option.some.inj (congrArg (Option.map Prod.fst) h2)) (show ¬ (0 : Nat) = 2 by decide)
      · skip
        by_cases h64 : a = 64
        · subst h64
          exact absurd (Option.some.inj (congrArg (Option.map Prod.fst) h2)) (show ¬ (0 : Nat) = 2 by decide)
        · skip
          by_cases h65 : a = 65
          · subst h65
            exact absurd (Option.some.inj (congrArg (Option.map Prod.fst) h2)) (show ¬ (1 : Nat) = 2 by decide)
          · skip
            by_cases h66 : a = 66
            · subst h66
              exact absurd (Option.some.inj (congrArg (Option.map Prod.fst) h2)) (show ¬ (1 : Nat) = 2 by decide)
            · skip
              by_cases h79 : a = 79
              · subst h79
                exact absurd (Option.some.inj (congrArg (Option.map Prod.fst) h2)) (show ¬ (0 : Nat) = 2 by decide)
              · skip
                by_cases h80 : a = 80
                · subst h80
                  exact absurd (Option.some.inj (congrArg (Option.map Prod.fst) h2)) (show ¬ (0 : Nat) = 2 by decide)
                · skip
                  unfold fixK at h2
                  rw [if_neg h62, if_neg h63, if_neg h64, if_neg h65, if_neg h66, if_neg h79, if_neg h80] at h2
                  cases h2
  · exact mk_byt h1 h2
theorem sa_isB {S : cS} {a N i : Nat} {v : Int32} (h : isK S a 2 N) : (mk S).set a (.inl (2, N, .inl (upd (sA S a) i v))) = mk (wA a i v S) := by
  rcases h with ⟨h1, h2⟩ | ⟨h1, h2⟩
  · skip
    by_cases h62 : a = 62
    · subst h62
      obtain rfl : 768 = N := by have := congrArg (Option.map Prod.snd) h2; exact Option.some.inj this
      exact sa_62 S i v
    · skip
      by_cases h63 : a = 63
      · subst h63
        exact absurd (Option.some.inj (congrArg (Option.map Prod.fst) h2)) (show ¬ (0 : Nat) = 2 by decide)
      · skip
        by_cases h64 : a = 64
        · subst h64
          exact absurd (Option.some.inj (congrArg (Option.map Prod.fst) h2)) (show ¬ (0 : Nat) = 2 by decide)
        · skip
          by_cases h65 : a = 65
          · subst h65
            exact absurd (Option.some.inj (congrArg (Option.map Prod.fst) h2)) (show ¬ (1 : Nat) = 2 by decide)
          · skip
            by_cases h66 : a = 66
            · subst h66
              exact absurd (Option.some.inj (congrArg (Option.map Prod.fst) h2)) (show ¬ (1 : Nat) = 2 by decide)
            · skip
              by_cases h79 : a = 79
              · subst h79
                exact absurd (Option.some.inj (congrArg (Option.map Prod.fst) h2)) (show ¬ (0 : Nat) = 2 by decide)
              · skip
                by_cases h80 : a = 80
                · subst h80
                  exact absurd (Option.some.inj (congrArg (Option.map Prod.fst) h2)) (show ¬ (0 : Nat) = 2 by decide)
                · skip
                  unfold fixK at h2
                  rw [if_neg h62, if_neg h63, if_neg h64, if_neg h65, if_neg h66, if_neg h79, if_neg h80] at h2
                  cases h2
  · exact sa_byt h1 h2
theorem mk_isL {S : cS} {a N : Nat} (h : isK S a 1 N) : (mk S)[a]? = some (.inl (1, N, .inr (.inl (sL S a)))) := by
  rcases h with ⟨h1, h2⟩ | ⟨h1, h2⟩
  · skip
    by_cases h62 : a = 62
    · subst h62
      exact absurd (Option.some.inj (congrArg (Option.map Prod.fst) h2)) (show ¬ (2 : Nat) = 1 by decide)
    · skip
      by_cases h63 : a = 63
      · subst h63
        exact absurd (Option.some.inj (congrArg (Option.map Prod.fst) h2)) (show ¬ (0 : Nat) = 1 by decide)
      · skip
        by_cases h64 : a = 64
        · subst h64
          exact absurd (Option.some.inj (congrArg (Option.map Prod.fst) h2)) (show ¬ (0 : Nat) = 1 by decide)
        · skip
          by_cases h65 : a = 65
          · subst h65
            obtain rfl : 64 = N := by have := congrArg (Option.map Prod.snd) h2; exact Option.some.inj this
            exact mk_65 S
          · skip
            by_cases h66 : a = 66
            · subst h66
              obtain rfl : 64 = N := by have := congrArg (Option.map Prod.snd) h2; exact Option.some.inj this
              exact mk_66 S
            · skip
              by_cases h79 : a = 79
              · subst h79
                exact absurd (Option.some.inj (congrArg (Option.map Prod.fst) h2)) (show ¬ (0 : Nat) = 1 by decide)
              · skip
                by_cases h80 : a = 80
                · subst h80
                  exact absurd (Option.some.inj (congrArg (Option.map Prod.fst) h2)) (show ¬ (0 : Nat) = 1 by decide)
                · skip
                  unfold fixK at h2
                  rw [if_neg h62, if_neg h63, if_neg h64, if_neg h65, if_neg h66, if_neg h79, if_neg h80] at h2
                  cases h2
  · exact mk_row h1 h2
theorem sa_isL {S : cS} {a N i : Nat} {v : Int64} (h : isK S a 1 N) : (mk S).set a (.inl (1, N, .inr (.inl (vp_updL (sL S a) i v)))) = mk (wL a i v S) := by
  rcases h with ⟨h1, h2⟩ | ⟨h1, h2⟩
  · skip
    by_cases h62 : a = 62
    · subst h62
      exact absurd (Option.some.inj (congrArg (Option.map Prod.fst) h2)) (show ¬ (2 : Nat) = 1 by decide)
    · skip
      by_cases h63 : a = 63
      · subst h63
        exact absurd (Option.some.inj (congrArg (Option.map Prod.fst) h2)) (show ¬ (0 : Nat) = 1 by decide)
      · skip
        by_cases h64 : a = 64
        · subst h64
          exact absurd (Option.some.inj (congrArg (Option.map Prod.fst) h2)) (show ¬ (0 : Nat) = 1 by decide)
        · skip
          by_cases h65 : a = 65
          · subst h65
            obtain rfl : 64 = N := by have := congrArg (Option.map Prod.snd) h2; exact Option.some.inj this
            exact sa_65 S i v
          · skip
            by_cases h66 : a = 66
            · subst h66
              obtain rfl : 64 = N := by have := congrArg (Option.map Prod.snd) h2; exact Option.some.inj this
              exact sa_66 S i v
            · skip
              by_cases h79 : a = 79
              · subst h79
                exact absurd (Option.some.inj (congrArg (Option.map Prod.fst) h2)) (show ¬ (0 : Nat) = 1 by decide)
              · skip
                by_cases h80 : a = 80
                · subst h80
                  exact absurd (Option.some.inj (congrArg (Option.map Prod.fst) h2)) (show ¬ (0 : Nat) = 1 by decide)
                · skip
                  unfold fixK at h2
                  rw [if_neg h62, if_neg h63, if_neg h64, if_neg h65, if_neg h66, if_neg h79, if_neg h80] at h2
                  cases h2
  · exact sa_row h1 h2
theorem Bod.eqV {d j pc : Nat} {lv : sm_L} {st : List Value} {S Sf : cS} {v : Option Value} {x : Value} (y : Value) (e : x = y) (h : Bod d j pc lv (y :: st) S v Sf) : Bod d j pc lv (x :: st) S v Sf := by
  subst e
  exact h
theorem el_2 : 2 < mt_el.length := by decide +kernel
theorem pf_12_1 {x : Int32} : 1 < (sm_T 12).2.2 ∧ sm_fit (sm_ty 12 1) (.int x) = true ∧ ((sm_T 12).2.1 1).2.2.2 = false := by
  have h : 1 < (sm_T 12).2.2 ∧ sm_ty 12 1 = .int ∧ ((sm_T 12).2.1 1).2.2.2 = false := by decide +kernel
  refine ⟨h.1, ?_, h.2.2⟩
  rw [h.2.1]
  rfl
theorem pf_12_5 {x : Int32} : 5 < (sm_T 12).2.2 ∧ sm_fit (sm_ty 12 5) (.int x) = true ∧ ((sm_T 12).2.1 5).2.2.2 = false := by
  have h : 5 < (sm_T 12).2.2 ∧ sm_ty 12 5 = .int ∧ ((sm_T 12).2.1 5).2.2.2 = false := by decide +kernel
  refine ⟨h.1, ?_, h.2.2⟩
  rw [h.2.1]
  rfl
theorem pf_12_6 {x : Int32} : 6 < (sm_T 12).2.2 ∧ sm_fit (sm_ty 12 6) (.int x) = true ∧ ((sm_T 12).2.1 6).2.2.2 = false := by
  have h : 6 < (sm_T 12).2.2 ∧ sm_ty 12 6 = .int ∧ ((sm_T 12).2.1 6).2.2.2 = false := by decide +kernel
  refine ⟨h.1, ?_, h.2.2⟩
  rw [h.2.1]
  rfl
theorem pf_12_11 {x : Int32} : 11 < (sm_T 12).2.2 ∧ sm_fit (sm_ty 12 11) (.int x) = true ∧ ((sm_T 12).2.1 11).2.2.2 = false := by
  have h : 11 < (sm_T 12).2.2 ∧ sm_ty 12 11 = .int ∧ ((sm_T 12).2.1 11).2.2.2 = false := by decide +kernel
  refine ⟨h.1, ?_, h.2.2⟩
  rw [h.2.1]
  rfl
theorem pf_13_0 {x : Int32} : 0 < (sm_T 13).2.2 ∧ sm_fit (sm_ty 13 0) (.int x) = true ∧ ((sm_T 13).2.1 0).2.2.2 = false := by
  have h : 0 < (sm_T 13).2.2 ∧ sm_ty 13 0 = .int ∧ ((sm_T 13).2.1 0).2.2.2 = false := by decide +kernel
  refine ⟨h.1, ?_, h.2.2⟩
  rw [h.2.1]
  rfl
theorem pf_13_1 {x : Int32} : 1 < (sm_T 13).2.2 ∧ sm_fit (sm_ty 13 1) (.int x) = true ∧ ((sm_T 13).2.1 1).2.2.2 = false := by
  have h : 1 < (sm_T 13).2.2 ∧ sm_ty 13 1 = .int ∧ ((sm_T 13).2.1 1).2.2.2 = false := by decide +kernel
  refine ⟨h.1, ?_, h.2.2⟩
  rw [h.2.1]
  rfl
theorem pf_13_9 {x : Int32} : 9 < (sm_T 13).2.2 ∧ sm_fit (sm_ty 13 9) (.int x) = true ∧ ((sm_T 13).2.1 9).2.2.2 = false := by
  have h : 9 < (sm_T 13).2.2 ∧ sm_ty 13 9 = .int ∧ ((sm_T 13).2.1 9).2.2.2 = false := by decide +kernel
  refine ⟨h.1, ?_, h.2.2⟩
  rw [h.2.1]
  rfl
theorem pf_13_10 {x : Int32} : 10 < (sm_T 13).2.2 ∧ sm_fit (sm_ty 13 10) (.int x) = true ∧ ((sm_T 13).2.1 10).2.2.2 = false := by
  have h : 10 < (sm_T 13).2.2 ∧ sm_ty 13 10 = .int ∧ ((sm_T 13).2.1 10).2.2.2 = false := by decide +kernel
  refine ⟨h.1, ?_, h.2.2⟩
  rw [h.2.1]
  rfl
theorem pf_13_11 {x : Int32} : 11 < (sm_T 13).2.2 ∧ sm_fit (sm_ty 13 11) (.int x) = true ∧ ((sm_T 13).2.1 11).2.2.2 = false := by
  have h : 11 < (sm_T 13).2.2 ∧ sm_ty 13 11 = .int ∧ ((sm_T 13).2.1 11).2.2.2 = false := by decide +kernel
  refine ⟨h.1, ?_, h.2.2⟩
  rw [h.2.1]
  rfl
theorem pf_13_12 {x : Int32} : 12 < (sm_T 13).2.2 ∧ sm_fit (sm_ty 13 12) (.int x) = true ∧ ((sm_T 13).2.1 12).2.2.2 = false := by
  have h : 12 < (sm_T 13).2.2 ∧ sm_ty 13 12 = .int ∧ ((sm_T 13).2.1 12).2.2.2 = false := by decide +kernel
  refine ⟨h.1, ?_, h.2.2⟩
  rw [h.2.1]
  rfl
