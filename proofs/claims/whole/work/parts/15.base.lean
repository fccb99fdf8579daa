/-! THE START: both objects made, run in the kernel -/
theorem sb_opt {R : Option sm_R} (h : R.map (fun r => r.1.isNone) = some true) : R = some (none, (R.map (fun r => r.2.1)).getD [], (R.map (fun r => r.2.2)).getD 0) := by
  cases R with
  | none => cases h
  | some r =>
    obtain ⟨v, h1, u1⟩ := r
    cases v with
    | none => rfl
    | some v => cases h
def sb_R1 : Option sm_R := sf_ev none 30 200000 0 [.ref 0] ([] ++ [.inr (11, sm_new 11)]) (0 + (sm_T 11).2.2)
def sb_h1 : sm_H := (sb_R1.map (fun r => r.2.1)).getD []
def sb_u1 : Nat := (sb_R1.map (fun r => r.2.2)).getD 0
theorem sb_e1 : sb_R1 = some (none, sb_h1, sb_u1) := sb_opt (by decide +kernel)
/-- the reference's place -/
def sb_m : Nat := sb_h1.length
def sb_R2 : Option sm_R := sf_ev none 30 200000 281 [.ref sb_m] (sb_h1 ++ [.inr (14, sm_new 14)]) (sb_u1 + (sm_T 14).2.2)
def sb_h2 : sm_H := (sb_R2.map (fun r => r.2.1)).getD []
def sb_u2 : Nat := (sb_R2.map (fun r => r.2.2)).getD 0
theorem sb_e2 : sb_R2 = some (none, sb_h2, sb_u2) := sb_opt (by decide +kernel)
/-- the law's locals ahead of its loop -/
def sb_lv (i : Int32) : sm_L := [(3, .int i), (2, .ref sb_m), (1, .ref 0), (0, .retAddr 100000)]
def sb_ok (R : Option sm_R) : Bool := match R with
  | some (some (.int v), h, u) => v == 1 && (decide (h.length ≤ 600000) && decide (u ≤ 7302250))
  | _ => false
/-- what holds of a script that might fail holds of every one -/
noncomputable def sb_eps (P : (Nat → Int32) → Bool) : Nat → Int32 := @Classical.epsilon _ ⟨fun _ => 0⟩ (fun xs => P xs = false)
theorem sb_all (P : (Nat → Int32) → Bool) (h : P (sb_eps P) = true) (xs : Nat → Int32) : P xs = true := by
  cases hx : P xs with
  | true => rfl
  | false =>
    have h1 : P (sb_eps P) = false := @Classical.epsilon_spec _ (fun xs => P xs = false) ⟨xs, hx⟩
    rw [h] at h1
    cases h1
