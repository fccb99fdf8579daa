/-! DEEDS ON BOTH SIDES: minus, division, remainder -/
section
variable {P : Nat → Prop} {T : cS} {gT : Nat} {Q : Nat → Prop} {β : Nat → Nat} {F : Nat → Nat → Nat → Prop} {loc par : Nat → Nat → Nat} {ty : Nat → Nat × Nat} {G : Nat → Nat → Nat → Nat × Nat × LL → Prop} {D K : List Nat} {z nn g0 g1 g3 g4 g5 gn d v o t tp : Nat} {tq : Nat → Nat × Nat} {C r : List Lv} {x : Lv} {Sc Sr S S' W : cS} {hi lo a b : Int64} {kd : Int32}
theorem tf_F {b : Bool} (h : ¬ b = true) : b = false := by cases b <;> simp_all
/-- a sign of the reference, told by the number of its deed -/
theorem rbin_1 {sg : Nat} (hs : sg < 2 ^ 20) (c : Ans (d + 9) 401 [.ref 61, .int (nI sg)] S (some (.int 1)) W) : Ans (d + 10) 400 [.ref 61, .int (nI 8), .int (nI sg)] S (some (.int 1)) W := Ans.of (by rw [ml_400]; exact Nat.le_of_ble_eq_true rfl) (Bod.lv (by rfl) (rPl_1 (d := d + 1) (by omega) hs rfl c))
theorem rbin_0 {sg : Nat} (hs : sg < 2 ^ 20) (c : Ans (d + 9) 401 [.ref 61, .int (nI sg)] S (some (.int 0)) W) : Ans (d + 10) 400 [.ref 61, .int (nI 8), .int (nI sg)] S (some (.int 0)) W := Ans.of (by rw [ml_400]; exact Nat.le_of_ble_eq_true rfl) (Bod.lv (by rfl) (rPl_2 (d := d + 1) (by omega) hs rfl c))
def fSub (u u1 : Int64) : Sum Nat Int64 := if sm_c1 .ge (lg_cmp ((u ^^^ u1) &&& (u ^^^ (u - u1))) 0) true false = true then .inr (u - u1) else .inl 6
theorem sub_R (h : CI F loc par ty G tq (x :: r) S) (hl : lob (vL x) + 2 ≤ vH x) : opR F loc par ty G tq (d + 13) 197 [.ref 53] 400 [.ref 61, .int (nI 8), .int (nI 45)] x r (vH x - 2 + 1, vU x, vL x) S := by
  have m197 := ml_197
  have m401 := ml_401
  have m405 := ml_405
  refine ari_R (d := d + 1) fSub h hl (fun w S' hf cb c1 c0 cg => ?_) (fun e hf cb c1 c0 => ?_) (fun cb => ?_) (fun Sr t w h2 ht h51 k1 k0 hf => ?_) (fun Sr t e h2 ht h51 k1 k0 hf => ?_) (fun Sr t e0 e1 h2 ht h51 m0 m1 k1 k0 hn => ?_)
  · unfold fSub at hf
    split at hf
    · rename_i hc
      injection hf with hf
      subst hf
      exact Ans.of (by rw [m197]; exact Nat.le_of_ble_eq_true rfl) (Bod.lv (by rfl) (mSb_1 (d := d + 4) cb c1 c0 hc cg))
    · cases hf
  · unfold fSub at hf
    split at hf
    · cases hf
    · rename_i hc
      injection hf with hf
      subst hf
      exact ⟨by omega, Ans.of (by rw [m197]; exact Nat.le_of_ble_eq_true rfl) (Bod.lv (by rfl) (mSb_2 (d := d + 4) cb c1 c0 (tf_F hc)))⟩
  · exact Ans.of (by rw [m197]; exact Nat.le_of_ble_eq_true rfl) (Bod.lv (by rfl) (mSb_3 (d := d + 4) cb))
  · unfold fSub at hf
    split at hf
    · rename_i hc
      injection hf with hf
      subst hf
      exact rbin_1 (d := d + 3) (by omega) (Ans.of (by rw [m401]; exact Nat.le_of_ble_eq_true rfl) (Bod.lv (by rfl) (rBiS_1 (d := d + 3) h51 (by omega) h2 (by omega) (Ans.of (by rw [m405]; exact Nat.le_of_ble_eq_true rfl) (Bod.lv (by rfl) (rRkS_2 (d := d + 2) (e91 := 1) (e911 := 1) (by omega) (by omega) (by omega) k1 (by omega) rfl (by omega) k0 (by omega) rfl hc h51 (by omega) (by omega) (rpshI_T (d := d) (by omega)))))))) 
    · cases hf
  · unfold fSub at hf
    split at hf
    · cases hf
    · rename_i hc
      injection hf with hf
      subst hf
      exact rbin_0 (d := d + 3) (by omega) (Ans.of (by rw [m401]; exact Nat.le_of_ble_eq_true rfl) (Bod.lv (by rfl) (rBiS_2 (d := d + 3) h51 (by omega) h2 (by omega) (Ans.of (by rw [m405]; exact Nat.le_of_ble_eq_true rfl) (Bod.lv (by rfl) (rRkS_3 (d := d + 2) (e91 := 1) (e911 := 1) (by omega) (by omega) (by omega) k1 (by omega) rfl (by omega) k0 (by omega) rfl (tf_F hc) (rfail_T (d := d + 1) 6 (by omega) _))))))) 
  · refine rbin_0 (d := d + 3) (by omega) (Ans.of (by rw [m401]; exact Nat.le_of_ble_eq_true rfl) (Bod.lv (by rfl) (rBiS_2 (d := d + 3) h51 (by omega) h2 (by omega) ?_)))
    by_cases c1 : e1 = 1
    · exact Ans.of (by rw [m405]; exact Nat.le_of_ble_eq_true rfl) (Bod.lv (by rfl) (rRkS_4 (d := d + 2) (e91 := e1) (e911 := e0) (by omega) (by omega) (by omega) k1 (by omega) c1 (by omega) k0 (by omega) (fun c => hn ⟨c, c1⟩) (rfail_T (d := d + 1) 2 (by omega) _)))
    · exact Ans.of (by rw [m405]; exact Nat.le_of_ble_eq_true rfl) (Bod.lv (by rfl) (rRkS_1 (d := d + 2) (e91 := e1) (by omega) (by omega) (by omega) k1 (by omega) c1 (rfail_T (d := d + 1) 2 (by omega) _)))
end
