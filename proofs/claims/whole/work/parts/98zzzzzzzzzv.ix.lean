/-! DEEDS ON BOTH SIDES: an index, from either end -/
section
variable {S : cS} {d n t : Nat} {u a b : Int64}
theorem lg_ge {a b : Int64} : (¬ a < b → sm_c1 .ge (lg_cmp a b) true false = true) ∧ (a < b → sm_c1 .ge (lg_cmp a b) true false = false) := by
  refine ⟨fun h => ?_, fun h => by rw [cq_lt h]; decide⟩
  by_cases c : b < a
  · rw [cq_gt c]; decide
  · have e : a = b := by
      have h1 : ¬ a.toInt < b.toInt := fun c => h (Int64.lt_iff_toInt_lt.mpr c)
      have h2 : ¬ b.toInt < a.toInt := fun c' => c (Int64.lt_iff_toInt_lt.mpr c')
      exact Int64.toInt_inj.mp (by omega)
    rw [cmp_eq e]; decide
theorem lg_lt {a b : Int64} : (a < b → sm_c1 .lt (lg_cmp a b) true false = true) ∧ (¬ a < b → sm_c1 .lt (lg_cmp a b) true false = false) := ⟨fun h => by rw [cq_lt h]; decide, fun h => cq_ge h⟩
theorem nI_ll (hn : n < 2 ^ 31) : (nI n).toInt64 = lN n := by
  apply Int64.toInt_inj.mp
  rw [Int32.toInt_toInt64]
  unfold nI lN
  rw [Int32.toInt_ofNat_of_lt hn, Int64.toInt_ofNat_of_lt (by omega)]
theorem lN_t (hn : n < 2 ^ 63) : (lN n).toInt = (n : Int) := by
  unfold lN
  exact Int64.toInt_ofNat_of_lt hn
/-- the index told from the front -/
def eW (u : Int64) (n : Nat) : Int64 := if u < 0 then u + lN n else u
def ixR (u : Int64) (n : Nat) : Option Nat := if ¬ eW u n < 0 ∧ eW u n < lN n then some (eW u n).toInt.toNat else none
theorem ix_some {i : Nat} (hn : n ≤ 300) (h : ixR u n = some i) : i < n ∧ ¬ eW u n < 0 ∧ eW u n < lN n ∧ eW u n = lN i := by
  unfold ixR at h
  split at h
  · rename_i hc
    injection h with h
    obtain ⟨c1, c2⟩ := hc
    have e0 : (0 : Int64).toInt = 0 := by decide
    have h1 : ¬ (eW u n).toInt < 0 := fun c => c1 (Int64.lt_iff_toInt_lt.mpr (by rw [e0]; exact c))
    have h2 := Int64.lt_iff_toInt_lt.mp c2
    rw [lN_t (by omega)] at h2
    refine ⟨by omega, c1, c2, ?_⟩
    apply Int64.toInt_inj.mp
    rw [lN_t (by omega)]
    omega
  · cases h
theorem ix_none (h : ixR u n = none) : eW u n < 0 ∨ ¬ eW u n < lN n := by
  unfold ixR at h
  split at h
  · cases h
  · rename_i hc
    by_cases c : eW u n < 0
    · exact Or.inl c
    · exact Or.inr (fun c2 => hc ⟨c, c2⟩)
theorem en_C (hn : n ≤ 300) : Ans (d + 9) 208 [.long u, .int (nI n)] S (some (.int (match ixR u n with | some i => nI i | none => (Int8.ofInt (-3)).toInt32))) S := by
  have m := ml_208
  have go : ∀ {v : Option Value}, Bod (d + 8) 208 0 [(0, .long u), (2, .int (nI n))] [] S v S → Ans (d + 9) 208 [.long u, .int (nI n)] S v S := fun h => Ans.of (by rw [m]; exact Nat.le_of_ble_eq_true rfl) (Bod.lv (by rfl) h)
  have en := nI_ll (n := n) (by omega)
  cases hx : ixR u n with
  | some i =>
    obtain ⟨i1, i2, i3, i4⟩ := ix_some hn hx
    dsimp only
    unfold eW at i2 i3 i4
    by_cases c : u < 0
    · rw [if_pos c] at i2 i3 i4
      have := mEn_5 (d := d) (S := S) (xi := u) (sz := n) (by omega) (lg_ge.2 c) (by rw [en]; exact lg_lt.2 i2) (by rw [en]; exact lg_lt.1 i3)
      rw [en, i4, lN_i] at this
      exact go this
    · rw [if_neg c] at i2 i3 i4
      have := mEn_2 (d := d) (S := S) (xi := u) (sz := n) (by omega) (lg_ge.1 c) (lg_lt.2 i2) (by rw [en]; exact lg_lt.1 i3)
      rw [i4, lN_i] at this
      rw [i4]
      exact Ans.of (by rw [m]; exact Nat.le_of_ble_eq_true rfl) (Bod.lv (by rfl) (by rw [← i4] at this ⊢; exact this))
  | none =>
    dsimp only
    have h := ix_none hx
    unfold eW at h
    by_cases c : u < 0
    · rw [if_pos c] at h
      by_cases c2 : u + lN n < 0
      · exact go (mEn_4 (by omega) (lg_ge.2 c) (by rw [en]; exact lg_lt.1 c2))
      · exact go (mEn_6 (by omega) (lg_ge.2 c) (by rw [en]; exact lg_lt.2 c2) (by rw [en]; exact lg_lt.2 (h.resolve_left c2)))
    · rw [if_neg c] at h
      exact go (mEn_3 (by omega) (lg_ge.1 c) (lg_lt.2 c) (by rw [en]; exact lg_lt.2 (h.resolve_left c)))
theorem n1_l (hn : n ≤ 300) : (nI n - nI 1).toInt64.toInt = (n : Int) - 1 := by
  rcases Nat.eq_zero_or_pos n with e | e
  · subst e; decide
  · have : nI n - nI 1 = nI (n - 1) := by
      obtain ⟨k, rfl⟩ : ∃ k, n = k + 1 := ⟨n - 1, by omega⟩
      rw [show k + 1 - 1 = k by omega]
      unfold nI
      rw [Int32.ofNat_add, Int32.add_sub_cancel]
    rw [this, nI_ll (by omega), lN_t (by omega)]
    omega
theorem in_R {i : Nat} (hn : n ≤ 300) (h : ixR u n = some i) : Ans (d + 1) 284 [.long (eW u n), .long 0, .long (nI n - nI 1).toInt64] S (some (.int 1)) S := by
  obtain ⟨i1, i2, i3, i4⟩ := ix_some hn h
  refine in_yesA i2 (fun c => ?_)
  have := Int64.lt_iff_toInt_lt.mp c
  rw [n1_l hn, i4, lN_t (by omega)] at this
  omega
theorem in_N (hn : n ≤ 300) (h : ixR u n = none) : Ans (d + 1) 284 [.long (eW u n), .long 0, .long (nI n - nI 1).toInt64] S (some (.int 0)) S := by
  rcases Classical.em (eW u n < 0) with c | c
  · exact in_no_lo c
  · refine in_no_hi c ?_
    have h2 := (ix_none h).resolve_left c
    apply Int64.lt_iff_toInt_lt.mpr
    rw [n1_l hn]
    have : ¬ (eW u n).toInt < (lN n).toInt := fun c2 => h2 (Int64.lt_iff_toInt_lt.mpr c2)
    rw [lN_t (by omega)] at this
    omega
end
