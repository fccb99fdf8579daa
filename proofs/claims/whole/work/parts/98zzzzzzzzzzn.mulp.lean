/-! DEEDS ON BOTH SIDES: a product that is too large -/
section
variable {u v u1 : Int64} {a b x y A B C z : Int}
theorem sar_i {k : Nat} (hk : k < 64) : (u >>> ((nI k).toInt64 &&& 63)).toInt = u.toInt / 2 ^ k := by
  rw [wb_c k hk]
  show (u.toBitVec.sshiftRight' ((lN k).toBitVec.smod 64)).toInt = _
  rw [wb_tb, wb_sm k hk, BitVec.toInt_sshiftRight', BitVec.toNat_ofNat, Nat.mod_eq_of_lt (by omega), Int.shiftRight_eq_div_pow]
  rfl
theorem lN_int {n : Nat} (hn : n < 2 ^ 64) : (lN n).toInt = if n < 2 ^ 63 then (n : Int) else (n : Int) - 2 ^ 64 := by
  unfold lN
  rw [Int64.toInt_ofNat', show Int64.size = 2 ^ 64 from rfl, Int.bmod_def]
  split <;> split <;> omega
theorem low_i : ∃ n, n < 2 ^ 32 ∧ u &&& 4294967295 = lN n ∧ (n : Int) = u.toInt % 2 ^ 32 := by
  obtain ⟨n, hn, e⟩ := wb_of u
  have em : (4294967295 : Int64) = lN (2 ^ 32 - 1) := by decide
  refine ⟨n % 2 ^ 32, by omega, by rw [e, em, wb_mask hn (by omega)], ?_⟩
  rw [e, lN_int hn]
  split <;> omega
theorem mul_bd (h1 : -A ≤ x) (h2 : x ≤ C) (h3 : 0 ≤ y) (h4 : y ≤ B) (hA : 0 ≤ A) (hC : 0 ≤ C) : -(A * B) ≤ x * y ∧ x * y ≤ C * B := by
  constructor
  · have p1 := Int.mul_le_mul_of_nonneg_right h1 h3
    have p2 := Int.mul_le_mul_of_nonneg_left h4 hA
    rw [Int.neg_mul] at p1
    omega
  · have p1 := Int.mul_le_mul_of_nonneg_right h2 h3
    have p2 := Int.mul_le_mul_of_nonneg_left h4 hC
    omega
theorem bm_i (h1 : -2 ^ 63 ≤ z) (h2 : z < 2 ^ 63) : z.bmod (2 ^ 64) = z := by
  rw [Int.bmod_def]
  split <;> omega
theorem toI_b (u : Int64) : -2 ^ 63 ≤ u.toInt ∧ u.toInt < 2 ^ 63 := ⟨Int64.le_toInt u, Int64.toInt_lt u⟩
theorem lNm (a b : Nat) : lN a * lN b = lN (a * b) := (Int64.ofNat_mul a b).symm
/-- the high half of a product -/
def mHi (u u1 : Int64) : Int64 := ((u >>> ((nI 32).toInt64 &&& 63)) * (u1 >>> ((nI 32).toInt64 &&& 63))) + ((((u >>> ((nI 32).toInt64 &&& 63)) * (u1 &&& ((4294967295)))) + ((((u &&& ((4294967295))) * (u1 &&& ((4294967295)))).toUInt64 >>> ((nI 32).toInt64.toUInt64 &&& Int64.toUInt64 63)).toInt64)) >>> ((nI 32).toInt64 &&& 63)) + ((((((u >>> ((nI 32).toInt64 &&& 63)) * (u1 &&& ((4294967295)))) + ((((u &&& ((4294967295))) * (u1 &&& ((4294967295)))).toUInt64 >>> ((nI 32).toInt64.toUInt64 &&& Int64.toUInt64 63)).toInt64)) &&& ((4294967295))) + ((u &&& ((4294967295))) * (u1 >>> ((nI 32).toInt64 &&& 63)))) >>> ((nI 32).toInt64 &&& 63))
theorem mHi_i (u v : Int64) : (mHi u v).toInt = u.toInt * v.toInt / 2 ^ 64 := by
  obtain ⟨m, m1, m2, m3⟩ := low_i (u := u)
  obtain ⟨n, n1, n2, n3⟩ := low_i (u := v)
  have hu := sar_i (u := u) (k := 32) (by omega)
  have hv := sar_i (u := v) (k := 32) (by omega)
  obtain ⟨u1, u2⟩ := toI_b u
  obtain ⟨v1, v2⟩ := toI_b v
  have mn : m * n < 2 ^ 64 := by
    have p1 : m * n ≤ (2 ^ 32 - 1) * (2 ^ 32 - 1) := Nat.mul_le_mul (by omega) (by omega)
    omega
  have mn2 : m * n ≤ (2 ^ 32 - 1) * (2 ^ 32 - 1) := Nat.mul_le_mul (by omega) (by omega)
  unfold mHi
  rw [m2, n2, lNm, wb_shr mn (by omega)]
  generalize hU : u >>> ((nI 32).toInt64 &&& 63) = U at *
  generalize hV : v >>> ((nI 32).toInt64 &&& 63) = V at *
  have lm : (lN m).toInt = (m : Int) := lN_t (by omega)
  have ln : (lN n).toInt = (n : Int) := lN_t (by omega)
  have lq : (lN (m * n / 2 ^ 32)).toInt = ((m * n / 2 ^ 32 : Nat) : Int) := lN_t (by omega)
  -- its pieces
  have bq := mul_bd (x := U.toInt) (y := (n : Int)) (A := 2 ^ 31) (C := 2 ^ 31 - 1) (B := 2 ^ 32 - 1) (by omega) (by omega) (by omega) (by omega) (by omega) (by omega)
  have br := mul_bd (x := V.toInt) (y := (m : Int)) (A := 2 ^ 31) (C := 2 ^ 31 - 1) (B := 2 ^ 32 - 1) (by omega) (by omega) (by omega) (by omega) (by omega) (by omega)
  have e1 : (U * lN n).toInt = U.toInt * n := by
    rw [Int64.toInt_mul, ln]
    exact bm_i (by omega) (by omega)
  have e2 : (U * lN n + lN (m * n / 2 ^ 32)).toInt = U.toInt * n + ((m * n / 2 ^ 32 : Nat) : Int) := by
    rw [Int64.toInt_add, e1, lq]
    exact bm_i (by omega) (by omega)
  generalize hT : U * lN n + lN (m * n / 2 ^ 32) = T at *
  obtain ⟨w, w1, w2, w3⟩ := low_i (u := T)
  have e3 : (lN m * V).toInt = V.toInt * m := by
    rw [Int64.toInt_mul, lm, Int.mul_comm]
    exact bm_i (by omega) (by omega)
  have e4 : ((T &&& 4294967295) + lN m * V).toInt = T.toInt % 2 ^ 32 + V.toInt * m := by
    rw [w2, Int64.toInt_add, e3, lN_t (by omega), w3]
    exact bm_i (by omega) (by omega)
  have s1 := sar_i (u := T) (k := 32) (by omega)
  have s2 := sar_i (u := (T &&& 4294967295) + lN m * V) (k := 32) (by omega)
  rw [e4] at s2
  have hprod : u.toInt * v.toInt = U.toInt * V.toInt * 2 ^ 64 + (U.toInt * n + V.toInt * m) * 2 ^ 32 + ((m * n : Nat) : Int) := by
    have eu : u.toInt = U.toInt * 2 ^ 32 + m := by omega
    have ev : v.toInt = V.toInt * 2 ^ 32 + n := by omega
    rw [eu, ev, Int.add_mul, Int.mul_add, Int.mul_add, Int.natCast_mul, Int.add_mul]
    have c1 : U.toInt * 2 ^ 32 * (V.toInt * 2 ^ 32) = U.toInt * V.toInt * 2 ^ 64 := by
      rw [Int.mul_assoc, Int.mul_left_comm (2 ^ 32), ← Int.mul_assoc]
      rfl
    have c2 : U.toInt * 2 ^ 32 * (n : Int) = U.toInt * n * 2 ^ 32 := Int.mul_right_comm _ _ _
    have c3 : (m : Int) * (V.toInt * 2 ^ 32) = V.toInt * m * 2 ^ 32 := by
      rw [← Int.mul_assoc, Int.mul_comm (m : Int)]
    rw [c1, c2, c3]
    omega
  have bp : -2 ^ 62 ≤ U.toInt * V.toInt ∧ U.toInt * V.toInt ≤ 2 ^ 62 := by
    by_cases c : 0 ≤ V.toInt
    · have := mul_bd (x := U.toInt) (y := V.toInt) (A := 2 ^ 31) (C := 2 ^ 31) (B := 2 ^ 31) (by omega) (by omega) c (by omega) (by omega) (by omega)
      omega
    · have := mul_bd (x := U.toInt) (y := -V.toInt) (A := 2 ^ 31) (C := 2 ^ 31) (B := 2 ^ 31) (by omega) (by omega) (by omega) (by omega) (by omega) (by omega)
      rw [Int.mul_neg] at this
      omega
  have f1 : (U * V).toInt = U.toInt * V.toInt := by
    rw [Int64.toInt_mul]
    exact bm_i (by omega) (by omega)
  have f2 : (U * V + T >>> ((nI 32).toInt64 &&& 63)).toInt = U.toInt * V.toInt + T.toInt / 2 ^ 32 := by
    rw [Int64.toInt_add, f1, s1]
    exact bm_i (by omega) (by omega)
  rw [Int64.toInt_add, f2, s2, hprod, bm_i (by omega) (by omega), e2]
  have eT : ((m * n / 2 ^ 32 : Nat) : Int) = ((m * n : Nat) : Int) / 2 ^ 32 := by omega
  rw [eT]
  generalize ((m * n : Nat) : Int) = t at *
  generalize U.toInt * V.toInt = p at *
  generalize U.toInt * (n : Int) = q at *
  generalize V.toInt * (m : Int) = r at *
  omega
/-- the product fits -/
def mFit (u v : Int64) : Prop := -2 ^ 63 ≤ u.toInt * v.toInt ∧ u.toInt * v.toInt < 2 ^ 63
theorem mR_iff (u v : Int64) : mHi u v = (u * v) >>> ((nI 63).toInt64 &&& 63) ↔ mFit u v := by
  have h1 := mHi_i u v
  have h2 := sar_i (u := u * v) (k := 63) (by omega)
  rw [Int64.toInt_mul] at h2
  have e : mHi u v = (u * v) >>> ((nI 63).toInt64 &&& 63) ↔ (mHi u v).toInt = ((u * v) >>> ((nI 63).toInt64 &&& 63)).toInt := ⟨fun c => by rw [c], fun c => Int64.toInt_inj.mp c⟩
  rw [e, h1, h2]
  unfold mFit
  generalize u.toInt * v.toInt = p
  rw [Int.bmod_def]
  constructor
  · intro c
    split at c <;> omega
  · intro c
    split <;> omega
theorem mC_iff (u v : Int64) (h1 : u ≠ -1) (h0 : u ≠ 0) : (u * v) / u = v ↔ mFit u v := by
  have hd : ((u * v) / u).toInt = (u * v).toInt.tdiv u.toInt := Int64.toInt_div_of_ne_right _ _ h1
  have hw : (u * v).toInt = (u.toInt * v.toInt).bmod (2 ^ 64) := Int64.toInt_mul u v
  have ha : u.toInt ≠ 0 := fun c => h0 (Int64.toInt_inj.mp (by rw [c]; rfl))
  obtain ⟨a1, a2⟩ := toI_b u
  have e : (u * v) / u = v ↔ (u * v).toInt.tdiv u.toInt = v.toInt := by
    rw [← hd]
    exact ⟨fun c => by rw [c], fun c => Int64.toInt_inj.mp c⟩
  rw [e]
  unfold mFit
  constructor
  · intro c
    have hm := Int.tmod_add_mul_tdiv (u * v).toInt u.toInt
    rw [c] at hm
    have hb : -2 ^ 63 < (u * v).toInt.tmod u.toInt ∧ (u * v).toInt.tmod u.toInt < 2 ^ 63 := by
      have h1 := Int.natAbs_tmod (u * v).toInt u.toInt
      have h2 : (u * v).toInt.natAbs % u.toInt.natAbs < u.toInt.natAbs := Nat.mod_lt _ (by omega)
      omega
    generalize (u * v).toInt.tmod u.toInt = t at hm hb
    rw [hw] at hm
    generalize u.toInt * v.toInt = p at hm ⊢
    rw [Int.bmod_def] at hm
    split at hm <;> omega
  · intro c
    rw [hw, bm_i c.1 c.2]
    exact Int.mul_tdiv_cancel_left _ ha
end
