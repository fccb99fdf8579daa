/-! CALLS OF CLASSES: there is no room for the instance, on both sides -/
section
variable {P : Nat → Prop} {T : cS} {gT : Nat} {Q : Nat → Prop} {β : Nat → Nat} {F : Nat → Nat → Nat → Prop} {loc par : Nat → Nat → Nat} {ty : Nat → Nat × Nat} {G : Nat → Nat → Nat → Nat × Nat × LL → Prop} {D K : List Nat} {z nn g0 g1 g3 g4 g5 gn k d gv id ba : Nat} {tq : Nat → Nat × Nat} {C r : List Lv} {x : Lv} {S Sr : cS}
theorem make_8 (h : CI F loc par ty G tq (x :: r) S) (hf : nLive S = 1500) (hid : id < 2 ^ 20) (hgv : gv < 2 ^ 20) (hba : ba < 2 ^ 20) : Ans (d + 14) 265 [.ref 52, .int (nI id), .int (nI gv)] S (some (.int (nI 8))) S ∧ ∀ P T gT Q β D z nn g0 g1 g3 g4 g5 gn Sr, XR P T gT Q β F D z nn g0 g1 g3 g4 g5 gn tq (x :: r) S Sr → ∃ D' W, Ans (d + 14) 397 [.ref 61, .int (nI ba), .int (nI gv)] Sr (some (.int 0)) W ∧ sI W 6164 = nI 8 ∧ XRe P T gT Q β F D' z nn g0 g1 g3 g4 g5 gn tq x r S W := by
  have m265 := ml_265
  have m397 := ml_397
  refine ⟨?_, fun P T gT Q β D z nn g0 g1 g3 g4 g5 gn Sr hX => ?_⟩
  · rcases nb_create (d := d + 11) (kd := 5) h.1 h.2.1 (by omega) (by omega) with ⟨_, A⟩ | ⟨c, _⟩
    · exact Ans.of (by rw [m265]; exact Nat.le_of_ble_eq_true rfl) (Bod.lv (by rfl) (mMj_5 (d := d + 5) hid hgv A (by decide)))
    · omega
  · obtain ⟨S1, D', b1, b2⟩ := (new_R (d := d + 3) (kd := nI 5) h hX).1 hf
    exact ⟨D', _, Ans.of (by rw [m397]; exact Nat.le_of_ble_eq_true rfl) (Bod.lv (by rfl) (rMk_2 (d := d + 5) hba hgv b1)), rIe _ _ _, XRe_I (XR_XRe b2 (CI_lob h)) (Or.inl rfl)⟩
end
