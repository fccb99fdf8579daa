/-! DEEDS ON BOTH SIDES: a product -/
section
variable {F : Nat → Nat → Nat → Prop} {loc par : Nat → Nat → Nat} {ty : Nat → Nat × Nat} {G : Nat → Nat → Nat → Nat × Nat × LL → Prop} {d : Nat} {tq : Nat → Nat × Nat} {r : List Lv} {x : Lv} {S : cS} {u v : Int64}
def fMul (u v : Int64) : Sum Nat Int64 := if -2 ^ 63 ≤ u.toInt * v.toInt ∧ u.toInt * v.toInt < 2 ^ 63 then .inr (u * v) else .inl 6
theorem m1_fit (v : Int64) : mFit (-1) v ↔ v ≠ -9223372036854775808 := by
  unfold mFit
  obtain ⟨a1, a2⟩ := toI_b v
  rw [show (-1 : Int64).toInt = -1 by decide]
  have e : v = -9223372036854775808 ↔ v.toInt = -9223372036854775808 := ⟨fun c => by rw [c]; decide, fun c => Int64.toInt_inj.mp (by rw [c]; decide)⟩
  rw [Ne, e]
  omega
theorem m0_fit (v : Int64) : mFit 0 v := by
  unfold mFit
  rw [show (0 : Int64).toInt = 0 by decide, Int.zero_mul]
  omega
theorem mulh_T : Ans (d + 9) 408 [.long u, .long v] S (some (.long (mHi u v))) S := Ans.of (by rw [ml_408]; exact Nat.le_of_ble_eq_true rfl) (Bod.lv (by rfl) (jMh_1 (d := d)))
/-- a product: 29 of the class, the sign 42 of the reference -/
theorem mul_R (h : CI F loc par ty G tq (x :: r) S) (hl : lob (vL x) + 2 ≤ vH x) : opR F loc par ty G tq (d + 13) 198 [.ref 53] 400 [.ref 61, .int (nI 8), .int (nI 42)] x r (vH x - 2 + 1, vU x, vL x) S := by
  have m198 := ml_198
  have m401 := ml_401
  have m405 := ml_405
  refine ari_R (d := d + 1) fMul h hl (fun w S' hf cb c1 c0 cg => ?_) (fun e hf cb c1 c0 => ?_) (fun cb => ?_) (fun Sr t w h2 ht h51 k1 k0 hf => ?_) (fun Sr t e h2 ht h51 k1 k0 hf => ?_) (fun Sr t e0 e1 h2 ht h51 m0 m1 k1 k0 hn => ?_)
  · unfold fMul at hf
    split at hf
    · rename_i hc
      have hc' : mFit (sL S 48 (topC (x :: r) - 1 - 1)) (sL S 48 (topC (x :: r) - 1 - 0)) := hc
      injection hf with hf
      subst hf
      refine Ans.of (by rw [m198]; exact Nat.le_of_ble_eq_true rfl) (Bod.lv (by rfl) ?_)
      by_cases c1' : sL S 48 (topC (x :: r) - 1 - 1) = -1
      · rw [c1'] at hc'
        exact mMu_4 (d := d + 4) cb c1 c0 (by rw [c1']; exact lgne_F) (lgne_T ((m1_fit _).mp hc')) cg
      · by_cases c0' : sL S 48 (topC (x :: r) - 1 - 1) = 0
        · exact mMu_1 (d := d + 4) cb c1 c0 (lgne_T c1') (by rw [c0']; exact lgeq_T) cg
        · exact mMu_2 (d := d + 4) cb c1 c0 (lgne_T c1') (lgeq_F c0') (by rw [(mC_iff _ _ c1' c0').mpr hc']; exact lgeq_T) cg
    · cases hf
  · unfold fMul at hf
    split at hf
    · cases hf
    · rename_i hc
      have hc' : ¬ mFit (sL S 48 (topC (x :: r) - 1 - 1)) (sL S 48 (topC (x :: r) - 1 - 0)) := hc
      injection hf with hf
      subst hf
      refine ⟨by omega, Ans.of (by rw [m198]; exact Nat.le_of_ble_eq_true rfl) (Bod.lv (by rfl) ?_)⟩
      by_cases c1' : sL S 48 (topC (x :: r) - 1 - 1) = -1
      · rw [c1'] at hc'
        refine mMu_5 (d := d + 4) cb c1 c0 (by rw [c1']; exact lgne_F) ?_
        have : sL S 48 (topC (x :: r) - 1 - 0) = -9223372036854775808 := Classical.byContradiction (fun c => hc' ((m1_fit _).mpr c))
        rw [this]
        exact lgne_F
      · by_cases c0' : sL S 48 (topC (x :: r) - 1 - 1) = 0
        · rw [c0'] at hc'
          exact absurd (m0_fit _) hc'
        · exact mMu_3 (d := d + 4) cb c1 c0 (lgne_T c1') (lgeq_F c0') (lgeq_F (fun c => hc' ((mC_iff _ _ c1' c0').mp c)))
  · exact Ans.of (by rw [m198]; exact Nat.le_of_ble_eq_true rfl) (Bod.lv (by rfl) (mMu_6 (d := d + 4) cb))
  · unfold fMul at hf
    split at hf
    · rename_i hc
      have hc' : mFit (sL Sr 92 (t - 2)) (sL Sr 92 (t - 1)) := hc
      injection hf with hf
      subst hf
      have he := (mR_iff _ _).mpr hc'
      exact rbin_1 (d := d + 3) (by omega) (Ans.of (by rw [m401]; exact Nat.le_of_ble_eq_true rfl) (Bod.lv (by rfl) (rBiM_1 (d := d + 3) h51 (by omega) h2 (by omega) (Ans.of (by rw [m405]; exact Nat.le_of_ble_eq_true rfl) (Bod.lv (by rfl) (rRkM_2 (d := d + 2) (e91 := 1) (e911 := 1) (by omega) (by omega) (by omega) k1 (by omega) rfl (by omega) k0 (by omega) rfl mulh_T (by rw [he]; exact lgeq_T) h51 (by omega) (by omega) (rpshI_T (d := d) (by omega))))))))
    · cases hf
  · unfold fMul at hf
    split at hf
    · cases hf
    · rename_i hc
      have hc' : ¬ mFit (sL Sr 92 (t - 2)) (sL Sr 92 (t - 1)) := hc
      injection hf with hf
      subst hf
      have he := fun c => hc' ((mR_iff _ _).mp c)
      exact rbin_0 (d := d + 3) (by omega) (Ans.of (by rw [m401]; exact Nat.le_of_ble_eq_true rfl) (Bod.lv (by rfl) (rBiM_2 (d := d + 3) h51 (by omega) h2 (by omega) (Ans.of (by rw [m405]; exact Nat.le_of_ble_eq_true rfl) (Bod.lv (by rfl) (rRkM_3 (d := d + 2) (e91 := 1) (e911 := 1) (by omega) (by omega) (by omega) k1 (by omega) rfl (by omega) k0 (by omega) rfl mulh_T (lgeq_F he) (rfail_T (d := d + 1) 6 (by omega) _)))))))
  · refine rbin_0 (d := d + 3) (by omega) (Ans.of (by rw [m401]; exact Nat.le_of_ble_eq_true rfl) (Bod.lv (by rfl) (rBiM_2 (d := d + 3) h51 (by omega) h2 (by omega) ?_)))
    by_cases c1 : e1 = 1
    · exact Ans.of (by rw [m405]; exact Nat.le_of_ble_eq_true rfl) (Bod.lv (by rfl) (rRkM_4 (d := d + 2) (e91 := e1) (e911 := e0) (by omega) (by omega) (by omega) k1 (by omega) c1 (by omega) k0 (by omega) (fun c => hn ⟨c, c1⟩) (rfail_T (d := d + 1) 2 (by omega) _)))
    · exact Ans.of (by rw [m405]; exact Nat.le_of_ble_eq_true rfl) (Bod.lv (by rfl) (rRkM_1 (d := d + 2) (e91 := e1) (by omega) (by omega) (by omega) k1 (by omega) c1 (rfail_T (d := d + 1) 2 (by omega) _)))
end
