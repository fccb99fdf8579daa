/-! DEEDS ON BOTH SIDES: the bytes of a text -/
section
variable {f g : Nat → Nat} {n m i d q : Nat} {S : cS} {hi lo a b : Int64}
theorem dv_add {x y c : Nat} (hc : 0 < c) : (c * x + y) / c = x + y / c := Nat.mul_add_div hc x y
theorem bE_at : ∀ {M : Nat}, (∀ i, i < M → f i < 256) → ∀ i, i < M → bE f M / 2 ^ (8 * (M - 1 - i)) % 256 = f i := by
  intro M
  induction M with
  | zero => intro _ i hi; omega
  | succ M ih =>
    intro h i hi
    have hM := h M (by omega)
    have e0 : bE f (M + 1) = 256 * bE f M + f M := rfl
    by_cases e : i = M
    · subst e
      rw [show 8 * (i + 1 - 1 - i) = 0 by omega, e0, Nat.pow_zero, Nat.div_one]
      omega
    · have hp : 2 ^ (8 * (M + 1 - 1 - i)) = 256 * 2 ^ (8 * (M - 1 - i)) := by
        rw [show 8 * (M + 1 - 1 - i) = 8 + 8 * (M - 1 - i) by omega, Nat.pow_add]
      rw [hp, ← Nat.div_div_eq_div_mul, e0, dv_add (by omega), Nat.div_eq_of_lt hM, Nat.add_zero]
      exact ih (fun j hj => h j (by omega)) i (by omega)
theorem dv_hi {A B c : Nat} (h : c ≤ 48) : (A * 2 ^ 56 + B) / 2 ^ c % 256 = B / 2 ^ c % 256 := by
  have e : A * 2 ^ 56 = 2 ^ c * (256 * (A * 2 ^ (48 - c))) := by
    have : 2 ^ 56 = 256 * (2 ^ c * 2 ^ (48 - c)) := by rw [← Nat.pow_add, show c + (48 - c) = 48 by omega]
    rw [this, Nat.mul_left_comm A 256, Nat.mul_left_comm A (2 ^ c), Nat.mul_left_comm 256 (2 ^ c)]
  rw [e, dv_add (Nat.two_pow_pos _)]
  omega
theorem dv_sc {x k a : Nat} : x * 2 ^ a / 2 ^ (a + k) = x / 2 ^ k := by
  rw [Nat.pow_add, Nat.mul_comm x, Nat.mul_div_mul_left _ _ (Nat.two_pow_pos _)]
theorem xH_at (h7 : i < 7) (hi : i < n) (hf : ∀ i, i < n → f i < 256) : xH f n / 2 ^ (48 - 8 * i) % 256 = f i := by
  unfold xH
  rw [dv_hi (by omega)]
  split
  · rename_i c
    rw [show 48 - 8 * i = (56 - 8 * n) + 8 * (n - 1 - i) by omega, dv_sc]
    exact bE_at hf i hi
  · rw [show 48 - 8 * i = 8 * (7 - 1 - i) by omega]
    exact bE_at (M := 7) (fun j hj => hf j (by omega)) i h7
theorem xL_at (h7 : 7 ≤ i) (hi : i < n) (hn : n ≤ 15) (hf : ∀ i, i < n → f i < 256) : xL f n / 2 ^ (112 - 8 * i) % 256 = f i := by
  unfold xL
  rw [if_neg (by omega), show 112 - 8 * i = (64 - 8 * (n - 7)) + 8 * (n - 7 - 1 - (i - 7)) by omega, dv_sc]
  have := bE_at (f := fun j => f (7 + j)) (M := n - 7) (fun j hj => hf (7 + j) (by omega)) (i - 7) (by omega)
  rw [this]
  show f (7 + (i - 7)) = f i
  rw [show 7 + (i - 7) = i by omega]
theorem nI_255 (q : Nat) : nI q &&& nI 255 = nI (q % 256) := by
  apply Int32.toBitVec_inj.mp
  apply BitVec.eq_of_toNat_eq
  show (BitVec.ofNat 32 q &&& BitVec.ofNat 32 255).toNat = (BitVec.ofNat 32 (q % 256)).toNat
  rw [BitVec.toNat_and, BitVec.toNat_ofNat, BitVec.toNat_ofNat, BitVec.toNat_ofNat, show 255 % 2 ^ 32 = 2 ^ 8 - 1 by decide, Nat.and_two_pow_sub_one_eq_mod]
  omega
/-- a byte of a text: the class -/
def c_bt (hi lo : Int64) (i : Nat) : Int32 := if i < 7 then (((hi.toUInt64 >>> ((nI (48 - (8 * i))).toInt64.toUInt64 &&& Int64.toUInt64 63)).toInt64).toInt32) &&& (nI 255) else (((lo.toUInt64 >>> ((nI (112 - (8 * i))).toInt64.toUInt64 &&& Int64.toUInt64 63)).toInt64).toInt32) &&& (nI 255)
theorem bt_ev (hi14 : i ≤ 14) : Ans (d + 1) 193 [.long hi, .long lo, .int (nI i)] S (some (.int (c_bt hi lo i))) S := by
  unfold c_bt
  split
  · rename_i h
    exact byteOf_S h
  · exact byteOf_B (by omega) hi14
theorem bt_n (hi lo : Int64) (i : Nat) : ∃ q, q < 256 ∧ c_bt hi lo i = nI q := by
  unfold c_bt
  split
  · obtain ⟨n, _, e⟩ := wb_of32 (((hi.toUInt64 >>> ((nI (48 - (8 * i))).toInt64.toUInt64 &&& Int64.toUInt64 63)).toInt64).toInt32)
    rw [e, nI_255]
    exact ⟨_, Nat.mod_lt _ (by omega), rfl⟩
  · obtain ⟨n, _, e⟩ := wb_of32 (((lo.toUInt64 >>> ((nI (112 - (8 * i))).toInt64.toUInt64 &&& Int64.toUInt64 63)).toInt64).toInt32)
    rw [e, nI_255]
    exact ⟨_, Nat.mod_lt _ (by omega), rfl⟩
theorem bt_e (hn : n ≤ 15) (hi : i < n) (hf : ∀ i, i < n → f i < 256) : c_bt (e_H f n) (e_L f n) i = nI (f i) := by
  obtain ⟨x1, _⟩ := xH_lt hn hf
  have x2 := xL_lt hn hf
  obtain ⟨e1, e2⟩ := e_x n hn hf
  unfold c_bt
  split
  · rename_i h7
    rw [e1, wb_shr x1 (by omega), lN_i, nI_255, xH_at h7 hi hf]
  · rw [e2, wb_shr x2 (by omega), lN_i, nI_255, xL_at (by omega) hi hn hf]
theorem l255 {q : Nat} (hq : q < 2 ^ 64) : (lN q &&& 255).toInt32 = nI (q % 256) := by
  have e : (255 : Int64) = lN (2 ^ 8 - 1) := by decide
  rw [e, wb_mask hq (by omega), lN_i]
/-- a byte of a text: the reference -/
theorem byR (hn : n ≤ 15) (hi : i < n) (hf : ∀ i, i < n → f i < 256) : Ans (d + 9) 386 [.long (p_A f n), .long (p_B f n), .int (nI i)] S (some (.int (nI (f i)))) S := by
  have m := ml_386
  have go : ∀ {v : Option Value}, Bod (d + 8) 386 0 [(0, .long (p_A f n)), (2, .long (p_B f n)), (4, .int (nI i))] [] S v S → Ans (d + 9) 386 [.long (p_A f n), .long (p_B f n), .int (nI i)] S v S := fun h => Ans.of (by rw [m]; exact Nat.le_of_ble_eq_true rfl) (Bod.lv (by rfl) h)
  by_cases h8 : i < 8
  · have hfi := hf i hi
    refine go (rBy_2 (by omega) h8 (by omega) ?_ (by omega))
    have hg : ∀ j, j < 8 → (fun j => if j < n then f j else 0) j < 256 := fun j _ => by
      dsimp only
      split
      · exact hf j (by omega)
      · omega
    have hlt := bE_lt (m := 8) hg
    unfold p_A
    rw [wb_shr hlt (by omega), l255 (Nat.lt_of_le_of_lt (Nat.div_le_self _ _) hlt), show 56 - 8 * i = 8 * (8 - 1 - i) by omega, bE_at hg i h8]
    show nI (if i < n then f i else 0) = nI (f i)
    rw [if_pos hi]
  · have hfi := hf i hi
    refine go (rBy_1 (ni := i) (by omega) (by omega) (by omega) ?_ (by omega))
    have hg : ∀ j, j < 8 → (fun j => if j = 7 then n else if 8 + j < n then f (8 + j) else 0) j < 256 := fun j _ => by
      dsimp only
      split
      · omega
      · split
        · exact hf _ (by omega)
        · omega
    have hlt := bE_lt (m := 8) hg
    unfold p_B
    rw [wb_shr hlt (by omega), l255 (Nat.lt_of_le_of_lt (Nat.div_le_self _ _) hlt), show 120 - 8 * i = 8 * (8 - 1 - (i - 8)) by omega, bE_at hg (i - 8) (by omega)]
    show nI (if i - 8 = 7 then n else if 8 + (i - 8) < n then f (8 + (i - 8)) else 0) = nI (f i)
    rw [if_neg (by omega), if_pos (by omega), show 8 + (i - 8) = i by omega]
/-- a text of one byte: its kind -/
theorem one_k (q : Nat) (hq : q < 256) : c_kind (c_appHi 3458764513820540928 (nI q)) = nI 3 ∧ c_obj (c_appHi 3458764513820540928 (nI q)) 0 = nI 0 := by
  have : ∀ q, q < 256 → c_kind (c_appHi 3458764513820540928 (nI q)) = nI 3 ∧ c_obj (c_appHi 3458764513820540928 (nI q)) 0 = nI 0 := by decide +kernel
  exact this q hq
theorem nar_b : ∀ a, a < 128 → vp_nar .byte ((nI a).toInt8.toInt32) &&& nI 255 = nI a := by decide +kernel
/-- a text of one byte -/
theorem one_C (b : Int32) : Ans (d + 1) 17 [.long 3458764513820540928, .int b] S (some (.long (c_appHi 3458764513820540928 b))) S := appHi_ev (by decide)
theorem one_e (q : Nat) (hq : q < 256) : c_appHi 3458764513820540928 (nI q) = e_H (fun _ => q) 1 ∧ (0 : Int64) = e_L (fun _ => q) 1 := by
  refine ⟨rfl, ?_⟩
  rw [(e_x (f := fun _ => q) 1 (by omega) (fun _ _ => hq)).2]
  rfl
end
