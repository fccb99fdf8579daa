/-! DEEDS ON BOTH SIDES: division, remainder -/
section
variable {P : Nat → Prop} {T : cS} {gT : Nat} {Q : Nat → Prop} {β : Nat → Nat} {F : Nat → Nat → Nat → Prop} {loc par : Nat → Nat → Nat} {ty : Nat → Nat × Nat} {G : Nat → Nat → Nat → Nat × Nat × LL → Prop} {D K : List Nat} {z nn g0 g1 g3 g4 g5 gn d v o t tp : Nat} {tq : Nat → Nat × Nat} {C r : List Lv} {x : Lv} {Sc Sr S S' W : cS} {hi lo a b : Int64} {kd : Int32}
def fdv (u u1 : Int64) : Int64 := if sm_c1 .ge (lg_cmp (u ^^^ u1) 0) true false = true then u / u1 else if sm_c1 .eq (lg_cmp ((u / u1) * u1) u) true false = true then u / u1 else u / u1 - 1
def fmd (u u1 : Int64) : Int64 := if sm_c1 .ge (lg_cmp (u ^^^ u1) 0) true false = true then u - u / u1 * u1 else if sm_c1 .eq (lg_cmp (u - u / u1 * u1) 0) true false = true then u - u / u1 * u1 else u - u / u1 * u1 + u1
theorem fdv_T {u u1 : Int64} (hu : ¬ u1 = 0) : Ans (d + 9) 200 [.long u, .long u1] S (some (.long (fdv u u1))) S := by
  have key : Bod (d + 8) 200 0 [(0, .long u), (2, .long u1)] [] S (some (.long (fdv u u1))) S := by
    unfold fdv
    by_cases h1 : sm_c1 .ge (lg_cmp (u ^^^ u1) 0) true false = true
    · rw [if_pos h1]; exact jFd_1 hu h1
    · rw [if_neg h1]
      by_cases h2 : sm_c1 .eq (lg_cmp ((u / u1) * u1) u) true false = true
      · rw [if_pos h2]; exact jFd_2 hu (tf_F h1) h2
      · rw [if_neg h2]; exact jFd_3 hu (tf_F h1) (tf_F h2)
  exact Ans.of (by rw [ml_200]; exact Nat.le_of_ble_eq_true rfl) (Bod.lv (by rfl) key)
theorem fmd_T {u u1 : Int64} (hu : ¬ u1 = 0) : Ans (d + 9) 202 [.long u, .long u1] S (some (.long (fmd u u1))) S := by
  have key : Bod (d + 8) 202 0 [(0, .long u), (2, .long u1)] [] S (some (.long (fmd u u1))) S := by
    unfold fmd
    by_cases h1 : sm_c1 .ge (lg_cmp (u ^^^ u1) 0) true false = true
    · rw [if_pos h1]; exact jFm_1 hu h1
    · rw [if_neg h1]
      by_cases h2 : sm_c1 .eq (lg_cmp (u - u / u1 * u1) 0) true false = true
      · rw [if_pos h2]; exact jFm_2 hu (tf_F h1) h2
      · rw [if_neg h2]; exact jFm_3 hu (tf_F h1) (tf_F h2)
  exact Ans.of (by rw [ml_202]; exact Nat.le_of_ble_eq_true rfl) (Bod.lv (by rfl) key)
theorem i64_m1 (u : Int64) : u / -1 * -1 = u := by
  have h : u / -1 = -u := by
    apply Int64.toInt_inj.mp
    have e : (-1 : Int64).toInt = -1 := by decide
    rw [Int64.toInt_div, e, Int64.toInt_neg, Int.tdiv_neg, Int.tdiv_one]
  rw [h, Int64.neg_mul, Int64.mul_neg, Int64.neg_neg, Int64.mul_one]
def fDiv (u u1 : Int64) : Sum Nat Int64 := if u1 = 0 then .inl 5 else if u = -9223372036854775808 ∧ u1 = -1 then .inl 6 else .inr (fdv u u1)
def fMod (u u1 : Int64) : Sum Nat Int64 := if u1 = 0 then .inl 5 else .inr (fmd u u1)
theorem fmd_m1 (u : Int64) : fmd u (-1) = 0 := by
  have e : u - u / -1 * -1 = 0 := by rw [i64_m1, Int64.sub_self]
  unfold fmd
  rw [e]
  split
  · rfl
  · split
    · rfl
    · rename_i h
      exact absurd (by decide) h
theorem div_R (h : CI F loc par ty G tq (x :: r) S) (hl : lob (vL x) + 2 ≤ vH x) : opR F loc par ty G tq (d + 13) 199 [.ref 53] 400 [.ref 61, .int (nI 8), .int (nI 12079)] x r (vH x - 2 + 1, vU x, vL x) S := by
  have m199 := ml_199
  have m401 := ml_401
  have m405 := ml_405
  have hR1 : ∀ Sr t w, 2 ≤ t → t ≤ 18700 → sI Sr 6151 = nI t → sA Sr 91 (t - 2) = nI 1 → sA Sr 91 (t - 1) = nI 1 → fDiv (sL Sr 92 (t - 2)) (sL Sr 92 (t - 1)) = .inr w → Ans (d + 13) 400 [.ref 61, .int (nI 8), .int (nI 12079)] Sr (some (.int 1)) (pshW (t - 2) (nI 1) w 0 Sr) := fun Sr t w h2 ht h51 k1 k0 hf => by
    unfold fDiv at hf
    split at hf
    · cases hf
    rename_i hz
    split at hf
    · cases hf
    rename_i hm
    injection hf with hf
    subst hf
    refine rbin_1 (d := d + 3) (by omega) (Ans.of (by rw [m401]; exact Nat.le_of_ble_eq_true rfl) (Bod.lv (by rfl) (rBiD_1 (d := d + 3) h51 (by omega) h2 (by omega) ?_)))
    by_cases c : sL Sr 92 (t - 2) = -9223372036854775808
    · exact Ans.of (by rw [m405]; exact Nat.le_of_ble_eq_true rfl) (Bod.lv (by rfl) (rRkD_3 (d := d + 2) (e91 := 1) (e911 := 1) (by omega) (by omega) (by omega) k1 (by omega) rfl (by omega) k0 (by omega) rfl (lgne_T hz) (by rw [c]; exact lgne_F) (lgne_T (fun c2 => hm ⟨c, c2⟩)) (fdv_T (d := d + 1) hz) h51 (by omega) (by omega) (rpshI_T (d := d) (by omega))))
    · exact Ans.of (by rw [m405]; exact Nat.le_of_ble_eq_true rfl) (Bod.lv (by rfl) (rRkD_2 (d := d + 2) (e91 := 1) (e911 := 1) (by omega) (by omega) (by omega) k1 (by omega) rfl (by omega) k0 (by omega) rfl (lgne_T hz) (lgne_T c) (fdv_T (d := d + 1) hz) h51 (by omega) (by omega) (rpshI_T (d := d) (by omega))))
  have hR2 : ∀ Sr t e, 2 ≤ t → t ≤ 18700 → sI Sr 6151 = nI t → sA Sr 91 (t - 2) = nI 1 → sA Sr 91 (t - 1) = nI 1 → fDiv (sL Sr 92 (t - 2)) (sL Sr 92 (t - 1)) = .inl e → Ans (d + 13) 400 [.ref 61, .int (nI 8), .int (nI 12079)] Sr (some (.int 0)) (wI 6164 (nI e) Sr) := fun Sr t e h2 ht h51 k1 k0 hf => by
    unfold fDiv at hf
    refine rbin_0 (d := d + 3) (by omega) (Ans.of (by rw [m401]; exact Nat.le_of_ble_eq_true rfl) (Bod.lv (by rfl) (rBiD_2 (d := d + 3) h51 (by omega) h2 (by omega) ?_)))
    split at hf
    · rename_i hz
      injection hf with hf
      subst hf
      exact Ans.of (by rw [m405]; exact Nat.le_of_ble_eq_true rfl) (Bod.lv (by rfl) (rRkD_5 (d := d + 2) (e91 := 1) (e911 := 1) (by omega) (by omega) (by omega) k1 (by omega) rfl (by omega) k0 (by omega) rfl (by rw [hz]; exact lgne_F) (rfail_T (d := d + 1) 5 (by omega) _)))
    rename_i hz
    split at hf
    · rename_i hm
      injection hf with hf
      subst hf
      exact Ans.of (by rw [m405]; exact Nat.le_of_ble_eq_true rfl) (Bod.lv (by rfl) (rRkD_4 (d := d + 2) (e91 := 1) (e911 := 1) (by omega) (by omega) (by omega) k1 (by omega) rfl (by omega) k0 (by omega) rfl (lgne_T hz) (by rw [hm.1]; exact lgne_F) (by rw [hm.2]; exact lgne_F) (rfail_T (d := d + 1) 6 (by omega) _)))
    · cases hf
  refine ari_R (d := d + 1) fDiv h hl (fun w S' hf cb c1 c0 cg => ?_) (fun e hf cb c1 c0 => ?_) (fun cb => ?_) hR1 hR2 (fun Sr t e0 e1 h2 ht h51 m0 m1 k1 k0 hn => ?_)
  · unfold fDiv at hf
    split at hf
    · cases hf
    rename_i hz
    split at hf
    · cases hf
    rename_i hm
    injection hf with hf
    subst hf
    by_cases c : sL S 48 (topC (x :: r) - 1 - 1) = -9223372036854775808
    · exact Ans.of (by rw [m199]; exact Nat.le_of_ble_eq_true rfl) (Bod.lv (by rfl) (mDv_2 (d := d + 4) cb c1 c0 (lgne_T hz) (by rw [c]; exact lgne_F) (lgne_T (fun c2 => hm ⟨c, c2⟩)) (fdv_T (d := d + 3) hz) cg))
    · exact Ans.of (by rw [m199]; exact Nat.le_of_ble_eq_true rfl) (Bod.lv (by rfl) (mDv_1 (d := d + 4) cb c1 c0 (lgne_T hz) (lgne_T c) (fdv_T (d := d + 3) hz) cg))
  · unfold fDiv at hf
    split at hf
    · rename_i hz
      injection hf with hf
      subst hf
      exact ⟨by omega, Ans.of (by rw [m199]; exact Nat.le_of_ble_eq_true rfl) (Bod.lv (by rfl) (mDv_4 (d := d + 4) cb c1 c0 (by rw [hz]; exact lgne_F)))⟩
    rename_i hz
    split at hf
    · rename_i hm
      injection hf with hf
      subst hf
      exact ⟨by omega, Ans.of (by rw [m199]; exact Nat.le_of_ble_eq_true rfl) (Bod.lv (by rfl) (mDv_3 (d := d + 4) cb c1 c0 (lgne_T hz) (by rw [hm.1]; exact lgne_F) (by rw [hm.2]; exact lgne_F)))⟩
    · cases hf
  · exact Ans.of (by rw [m199]; exact Nat.le_of_ble_eq_true rfl) (Bod.lv (by rfl) (mDv_5 (d := d + 4) cb))
  · refine rbin_0 (d := d + 3) (by omega) (Ans.of (by rw [m401]; exact Nat.le_of_ble_eq_true rfl) (Bod.lv (by rfl) (rBiD_2 (d := d + 3) h51 (by omega) h2 (by omega) ?_)))
    by_cases c1 : e1 = 1
    · exact Ans.of (by rw [m405]; exact Nat.le_of_ble_eq_true rfl) (Bod.lv (by rfl) (rRkD_6 (d := d + 2) (e91 := e1) (e911 := e0) (by omega) (by omega) (by omega) k1 (by omega) c1 (by omega) k0 (by omega) (fun c => hn ⟨c, c1⟩) (rfail_T (d := d + 1) 2 (by omega) _)))
    · exact Ans.of (by rw [m405]; exact Nat.le_of_ble_eq_true rfl) (Bod.lv (by rfl) (rRkD_1 (d := d + 2) (e91 := e1) (by omega) (by omega) (by omega) k1 (by omega) c1 (rfail_T (d := d + 1) 2 (by omega) _)))
theorem mod_R (h : CI F loc par ty G tq (x :: r) S) (hl : lob (vL x) + 2 ≤ vH x) : opR F loc par ty G tq (d + 13) 201 [.ref 53] 400 [.ref 61, .int (nI 8), .int (nI 37)] x r (vH x - 2 + 1, vU x, vL x) S := by
  have m201 := ml_201
  have m401 := ml_401
  have m405 := ml_405
  have hR1 : ∀ Sr t w, 2 ≤ t → t ≤ 18700 → sI Sr 6151 = nI t → sA Sr 91 (t - 2) = nI 1 → sA Sr 91 (t - 1) = nI 1 → fMod (sL Sr 92 (t - 2)) (sL Sr 92 (t - 1)) = .inr w → Ans (d + 13) 400 [.ref 61, .int (nI 8), .int (nI 37)] Sr (some (.int 1)) (pshW (t - 2) (nI 1) w 0 Sr) := fun Sr t w h2 ht h51 k1 k0 hf => by
    unfold fMod at hf
    split at hf
    · cases hf
    rename_i hz
    injection hf with hf
    subst hf
    refine rbin_1 (d := d + 3) (by omega) (Ans.of (by rw [m401]; exact Nat.le_of_ble_eq_true rfl) (Bod.lv (by rfl) (rBiR_1 (d := d + 3) h51 (by omega) h2 (by omega) ?_)))
    by_cases c : sL Sr 92 (t - 1) = -1
    · rw [c, fmd_m1]
      exact Ans.of (by rw [m405]; exact Nat.le_of_ble_eq_true rfl) (Bod.lv (by rfl) (rRkR_3 (d := d + 2) (e91 := 1) (e911 := 1) (by omega) (by omega) (by omega) k1 (by omega) rfl (by omega) k0 (by omega) rfl (lgne_T hz) (by rw [c]; exact lgne_F) h51 (by omega) (by omega) (rpshI_T (d := d) (by omega))))
    · exact Ans.of (by rw [m405]; exact Nat.le_of_ble_eq_true rfl) (Bod.lv (by rfl) (rRkR_2 (d := d + 2) (e91 := 1) (e911 := 1) (by omega) (by omega) (by omega) k1 (by omega) rfl (by omega) k0 (by omega) rfl (lgne_T hz) (lgne_T c) (fmd_T (d := d + 1) hz) h51 (by omega) (by omega) (rpshI_T (d := d) (by omega))))
  have hR2 : ∀ Sr t e, 2 ≤ t → t ≤ 18700 → sI Sr 6151 = nI t → sA Sr 91 (t - 2) = nI 1 → sA Sr 91 (t - 1) = nI 1 → fMod (sL Sr 92 (t - 2)) (sL Sr 92 (t - 1)) = .inl e → Ans (d + 13) 400 [.ref 61, .int (nI 8), .int (nI 37)] Sr (some (.int 0)) (wI 6164 (nI e) Sr) := fun Sr t e h2 ht h51 k1 k0 hf => by
    unfold fMod at hf
    split at hf
    · rename_i hz
      injection hf with hf
      subst hf
      exact rbin_0 (d := d + 3) (by omega) (Ans.of (by rw [m401]; exact Nat.le_of_ble_eq_true rfl) (Bod.lv (by rfl) (rBiR_2 (d := d + 3) h51 (by omega) h2 (by omega) (Ans.of (by rw [m405]; exact Nat.le_of_ble_eq_true rfl) (Bod.lv (by rfl) (rRkR_4 (d := d + 2) (e91 := 1) (e911 := 1) (by omega) (by omega) (by omega) k1 (by omega) rfl (by omega) k0 (by omega) rfl (by rw [hz]; exact lgne_F) (rfail_T (d := d + 1) 5 (by omega) _)))))))
    · cases hf
  refine ari_R (d := d + 1) fMod h hl (fun w S' hf cb c1 c0 cg => ?_) (fun e hf cb c1 c0 => ?_) (fun cb => ?_) hR1 hR2 (fun Sr t e0 e1 h2 ht h51 m0 m1 k1 k0 hn => ?_)
  · unfold fMod at hf
    split at hf
    · cases hf
    rename_i hz
    injection hf with hf
    subst hf
    exact Ans.of (by rw [m201]; exact Nat.le_of_ble_eq_true rfl) (Bod.lv (by rfl) (mRm_1 (d := d + 4) cb c0 (lgne_T hz) c1 (fmd_T (d := d + 3) hz) cg))
  · unfold fMod at hf
    split at hf
    · rename_i hz
      injection hf with hf
      subst hf
      exact ⟨by omega, Ans.of (by rw [m201]; exact Nat.le_of_ble_eq_true rfl) (Bod.lv (by rfl) (mRm_2 (d := d + 4) cb c0 (by rw [hz]; exact lgne_F)))⟩
    · cases hf
  · exact Ans.of (by rw [m201]; exact Nat.le_of_ble_eq_true rfl) (Bod.lv (by rfl) (mRm_3 (d := d + 4) cb))
  · refine rbin_0 (d := d + 3) (by omega) (Ans.of (by rw [m401]; exact Nat.le_of_ble_eq_true rfl) (Bod.lv (by rfl) (rBiR_2 (d := d + 3) h51 (by omega) h2 (by omega) ?_)))
    by_cases c1 : e1 = 1
    · exact Ans.of (by rw [m405]; exact Nat.le_of_ble_eq_true rfl) (Bod.lv (by rfl) (rRkR_5 (d := d + 2) (e91 := e1) (e911 := e0) (by omega) (by omega) (by omega) k1 (by omega) c1 (by omega) k0 (by omega) (fun c => hn ⟨c, c1⟩) (rfail_T (d := d + 1) 2 (by omega) _)))
    · exact Ans.of (by rw [m405]; exact Nat.le_of_ble_eq_true rfl) (Bod.lv (by rfl) (rRkR_1 (d := d + 2) (e91 := e1) (by omega) (by omega) (by omega) k1 (by omega) c1 (rfail_T (d := d + 1) 2 (by omega) _)))
end
