/-! DEEDS ON BOTH SIDES: how long a text is -/
section
variable {hi lo a b : Int64} {S : cS} {d : Nat}
theorem slen (h : srel hi lo a b) : ∃ n, n ≤ 15 ∧ c_len hi = n ∧ (b &&& 255).toInt32 = nI n := by
  obtain ⟨n, f, n15, hf, h1, h2, h3, h4⟩ := h
  have f8 : ∀ i, i < n → f i < 256 := fun i hi => by have := hf i hi; omega
  refine ⟨n, n15, ?_, ?_⟩
  · obtain ⟨x1, x2⟩ := xH_lt n15 f8
    rw [h1, (e_x n n15 f8).1, c_len_lN x1, x2]
    omega
  · rw [h4]
    unfold p_B
    have hg : ∀ i, i < 8 → (fun i => if i = 7 then n else if 8 + i < n then f (8 + i) else 0) i < 256 := fun i _ => by
      dsimp only
      split
      · omega
      · split
        · exact f8 _ (by omega)
        · omega
    have hlt := bE_lt (m := 8) hg
    have e7 : bE (fun i => if i = 7 then n else if 8 + i < n then f (8 + i) else 0) 8 % 2 ^ 8 = n := by
      show (256 * bE _ 7 + (if 7 = 7 then n else _)) % 256 = n
      rw [if_pos rfl]
      omega
    have e : (255 : Int64) = lN (2 ^ 8 - 1) := by decide
    rw [e, wb_mask (by omega) (by omega), e7, lN_i]
theorem many_T {n : Nat} (h : (b &&& 255).toInt32 = nI n) : Ans (d + 9) 360 [.long b] S (some (.int (nI n))) S := by
  have := jMy_1 (d := d) (S := S) (u := b)
  rw [h] at this
  exact Ans.of (by rw [ml_360]; exact Nat.le_of_ble_eq_true rfl) (Bod.lv (by rfl) this)
end
