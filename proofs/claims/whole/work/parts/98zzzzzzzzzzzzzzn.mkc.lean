/-! CALLS OF CLASSES: what the class does with init (265) -/
section
variable {hh o id gv k d : Nat} {S X0 X1 X : cS} {hi lo : Int64} {rb : Int32}
theorem mkC_0 (hid : id < 2 ^ 20) (hgv : gv < 2 ^ 20) (hk : 1 ≤ k ∧ k ≤ 1500) (hh15 : hh ≤ 1500) (ho : c_obj hi lo = nI o) (hkd : Ans (d + 13) 138 [.ref 2, .int (nI o)] X (some (.int (nI (h_kd X o)))) X) (hk7 : h_kd X o ≤ 7) (a1 : Ans (d + 13) 178 [.ref 2, .int (nI 5)] S (some (.int (nI k))) X0) (a2 : Ans (d + 13) 149 [.ref 2, .ref 6, .int (nI k)] X0 none X1) (a3 : Ans (d + 13) 179 [.ref 2, .int (nI k), .int (nI 0), .int (nI id), .int (nI 0)] X1 none X) (a4 : Ans (d + 13) 220 [.ref 2, .int (nI id), .long (sL X 17 34), .long (sL X 18 34)] X (some (.int (nI hh))) X) (a5 : Ans (d + 13) 206 [.ref 2, .int (nI hh), .long (sL X 17 34), .long (sL X 18 34)] X (some (.int rb)) X) (a6 : Ans (d + 13) 156 [.ref 2, .int (nI hh), .int rb] X (some (.long hi)) X) (a7 : Ans (d + 13) 158 [.ref 2, .int (nI hh), .int rb] X (some (.long lo)) X) : (h_kd X o = 3 → ∀ S', Ans (d + 13) 254 [.ref 52, .int (nI o), .int (nI gv), .int (nI k), .int (nI k)] X (some (.int (nI 0))) S' → Ans (d + 14) 265 [.ref 52, .int (nI id), .int (nI gv)] S (some (.int (nI 0))) S') ∧ (h_kd X o = 3 → ∀ e X2 S', 1 ≤ e ∧ e ≤ 100 → Ans (d + 13) 254 [.ref 52, .int (nI o), .int (nI gv), .int (nI k), .int (nI k)] X (some (.int (nI e))) X2 → Ans (d + 13) 142 [.ref 2, .ref 6, .int (nI k)] X2 none S' → Ans (d + 14) 265 [.ref 52, .int (nI id), .int (nI gv)] S (some (.int (nI e))) S') ∧ (h_kd X o ≠ 3 → gv ≠ 0 → ∀ S', Ans (d + 13) 142 [.ref 2, .ref 6, .int (nI k)] X none S' → Ans (d + 14) 265 [.ref 52, .int (nI id), .int (nI gv)] S (some (.int (nI 2))) S') ∧ (h_kd X o ≠ 3 → gv = 0 → ∀ X2 S', Ans (d + 13) 148 [.ref 46, .int (nI 1), .long 4611686018427387904, .long (lN k)] X (some (.int (nI 0))) X2 → Ans (d + 13) 142 [.ref 2, .ref 6, .int (nI k)] X2 none S' → Ans (d + 14) 265 [.ref 52, .int (nI id), .int (nI gv)] S (some (.int (nI 0))) S') := by
  have m265 := ml_265
  have go : ∀ {e : Nat} {S' : cS}, Bod (d + 13) 265 0 [(0, .ref 52), (1, .int (nI id)), (2, .int (nI gv))] [] S (some (.int (nI e))) S' → Ans (d + 14) 265 [.ref 52, .int (nI id), .int (nI gv)] S (some (.int (nI e))) S' := fun hb => Ans.of (by rw [m265]; exact Nat.le_of_ble_eq_true rfl) (Bod.lv (by rfl) hb)
  have n1 := nameHi_T (d := d + 11) (S := X) (k := 34) (by omega)
  have n2 := nameLo_T (d := d + 11) (S := X) (k := 34) (by omega)
  have hne : sm_c1 .ne (nI k) true false = true := by
    show (if nI k = 0 then false else true) = true
    exact if_neg (nI_ne (b := 0) (by omega) (by omega) (by omega) : nI k ≠ nI 0)
  have a8 : Ans (d + 13) 137 [.long hi, .long lo] X (some (.int (nI o))) X := objectOf_n (d := d + 12) ho
  refine ⟨fun c S' a => ?_, fun c e X2 S' he a b => ?_, fun c g S' b => ?_, fun c g X2 S' a b => ?_⟩
  · exact go (mMj_4 (d := d + 5) hid hgv a1 hne a2 a3 n1 n2 (by omega) a4 a5 a6 a7 a8 (by omega) hkd c a (by decide))
  · exact go (mMj_3 (d := d + 5) hid hgv a1 hne a2 a3 n1 n2 (by omega) a4 a5 a6 a7 a8 (by omega) hkd c a (ne_0' he) b)
  · exact go (mMj_1 (d := d + 5) hid hgv a1 hne a2 a3 n1 n2 (by omega) a4 a5 a6 a7 a8 (by omega) hkd c g b)
  · rw [← nI_ll (by omega)] at a
    exact go (mMj_2 (d := d + 5) hid hgv a1 hne a2 a3 n1 n2 (by omega) a4 a5 a6 a7 a8 (by omega) hkd c g (by omega) a b)
end
