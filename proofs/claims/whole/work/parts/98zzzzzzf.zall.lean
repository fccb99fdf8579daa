/-! STATEMENTS OF THE REFERENCE: all of them, by the pure parser's fuel -/
section
variable {β : Nat → Nat} {n : Nat} {E : Nat → Nat → Bool} {V : Nat → Int32} {T : Nat → Nat × Nat} {own0 : Nat → Nat × Nat} {m u k1 : Nat} {S0 : cS} {H B0 W : Nat}
theorem Z_all (hX : zX β n V own0 m k1 S0) (hE : eqV E (qK β n) V) (hEr : eqR E) : ∀ F, (ZS β n E V T own0 m u k1 S0 H B0 W F 0 ∧ ZS β n E V T own0 m u k1 S0 H B0 W F 1) ∧ (ZQ β n E V T own0 m u k1 S0 H B0 W F 0 ∧ ZQ β n E V T own0 m u k1 S0 H B0 W F 1) ∧ (ZB β n E V T own0 m u k1 S0 H B0 W F 0 ∧ ZB β n E V T own0 m u k1 S0 H B0 W F 1) ∧ ZI β n E V T own0 m u k1 S0 H B0 W F ∧ ∀ F', F' + 1 = F → ZI β n E V T own0 m u k1 S0 H B0 W F' := by
  intro F
  induction F with
  | zero =>
    have s : ∀ z, ZS β n E V T own0 m u k1 S0 H B0 W 0 z := fun z => by
      intro opn dp ind s lp tr ca sc at' X af c w t b k S D h hK1 hI hF hD
      omega
    have q : ∀ z, ZQ β n E V T own0 m u k1 S0 H B0 W 0 z := fun z => by
      intro opn dp ind s lp tr ca sc at' X af c w t b k S d h1 h hF hD
      omega
    have b : ∀ z, ZB β n E V T own0 m u k1 S0 H B0 W 0 z := fun z => by
      intro opn dp ind s lp tr ca sc at' X af c w t b k S D h hK1 hI hF hr hD
      obtain ⟨w5, w6⟩ := rem_ge hK1
      omega
    exact ⟨⟨s 0, s 1⟩, ⟨q 0, q 1⟩, ⟨b 0, b 1⟩, ZI_s hX (b 0) (fun F' h => by omega), fun F' h => by omega⟩
  | succ F ih =>
    obtain ⟨⟨s0, s1⟩, ⟨q0, q1⟩, ⟨b0, b1⟩, i0, i1⟩ := ih
    have b0' := ZB_s hX (Or.inl rfl) q0
    exact ⟨⟨ZS0_s hX hE hEr b0 b1 i1, ZS1_s hX hE b0⟩, ⟨ZQ_s hX (Or.inl rfl) s0 q0, ZQ_s hX (Or.inr rfl) s1 q1⟩, ⟨b0', ZB_s hX (Or.inr rfl) q1⟩, ZI_s hX b0' (fun F' h => by
      obtain rfl : F' = F := by omega
      exact i0), fun F' h => by
      obtain rfl : F' = F := by omega
      exact i0⟩
end
