/-! STATEMENTS OF THE REFERENCE: binding, by simple -/
section
variable {β : Nat → Nat} {n : Nat} {E : Nat → Nat → Bool} {V : Nat → Int32} {T : Nat → Nat × Nat} {P : Nat → Int32 → Int32 × Int32} {own0 : Nat → Nat × Nat} {m u k1 : Nat} {S0 S S1 S2 : cS} {H B0 W d l c w t f f1 b j s : Nat} {X Y : Nat → Nat} {o1 o2 : List Op} {A A1 : Prop}
theorem z_bd {dp ind tr af k e : Nat} {opn : Nat → Nat} {lp : LpT} {sc : SCs} {at' : List Nat} (hX : zX β n V own0 m k1 S0) (h : zIs β n E V T own0 m u k1 S0 H B0 W 0 opn dp ind s lp tr sc at' X af c w t b k S) (hD : 238 ≤ e + 9) (hK : qK β n k < 64 ∧ qK β n k ≠ 40 ∧ qK β n k ≠ 43 ∧ qK β n k ≠ 44 ∧ qK β n k ≠ 46 ∧ qK β n k ≠ 47 ∧ qK β n k ≠ 48 ∧ qK β n k ≠ 49 ∧ qK β n k ≠ 50 ∧ qK β n k ≠ 51 ∧ qK β n k ≠ 52 ∧ qK β n k ≠ 53 ∧ qK β n k ≠ 54 ∧ qK β n k ≠ 56) : ∃ S1 v, Ans (e + 11) 304 [.ref 61] S (some (.int v)) S1 ∧ zLn β n E V T own0 m u S0 H B0 W lp sc at' X S c w t b k (psBind (qK β n) (qL β n) E s sc at' k) v S1 := by
  obtain ⟨h0, -, hls, hK1, hI, hx1, hx2, hx3⟩ := id h
  obtain ⟨h1, h2, h3, h4, h5, h6, h7, h8, h9, h10, h11, h12, h13⟩ := id h0
  have hk1 := hX.2.1
  have hkM : k < 6001 := by omega
  obtain ⟨S1, v, hA, hO⟩ := z_bind (e := e) hX h hD
  have hv : v = nI 0 ∨ v = nI 1 := by
    rcases hO with ⟨_, e1, _⟩ | ⟨_, _, _, _, e1, _⟩
    · exact Or.inl e1
    · exact Or.inr e1
  have ml : ∀ {v' : Int32} {Sf : cS}, Bod (e + 10) 304 0 [(0, .ref 61)] [] S (some (.int v')) Sf → Ans (e + 11) 304 [.ref 61] S (some (.int v')) Sf := fun p => Ans.of (by rw [ml_304]; exact Nat.le_of_ble_eq_true rfl) p
  by_cases hw : 40 ≤ qK β n k
  case neg =>
    obtain ⟨t1, -⟩ := z_tok hX h1 h7
    have hlt := rkd_lt (qK β n k)
    have hr2 : rkd (qK β n k) ≠ 2 := by
      unfold rkd
      repeat' split
      all_goals omega
    refine ⟨S1, v, ml ?_, hO⟩
    rcases hv with rfl | rfl
    · exact zSi_28 (d := e + 2) h2 hkM t1 (by omega) hr2 hA
    · exact zSi_27 (d := e + 2) h2 hkM t1 (by omega) hr2 hA
  obtain ⟨q, hq⟩ : ∃ q, qK β n k = 40 + q := ⟨qK β n k - 40, by omega⟩
  obtain ⟨w1, w2⟩ := z_word (K := q) hX h1 h7 hq (by omega)
  rcases (show q = 1 ∨ q = 2 ∨ q = 5 ∨ q = 15 ∨ q = 17 ∨ q = 18 ∨ q = 20 ∨ q = 19 ∨ q = 21 ∨ q = 22 ∨ q = 23 by omega) with e1 | e1 | e1 | e1 | e1 | e1 | e1 | e1 | e1 | e1 | e1
  case inr.inr.inr.inr.inr.inr.inr.inl =>
    refine ⟨S1, v, ml ?_, hO⟩
    rcases hv with rfl | rfl
    · exact zSi_19 (d := e + 2) h2 hkM w1 (by decide) rfl w2 (by omega) e1 hA
    · exact zSi_18 (d := e + 2) h2 hkM w1 (by decide) rfl w2 (by omega) e1 hA
  case inr.inr.inr.inr.inr.inr.inr.inr.inl =>
    refine ⟨S1, v, ml ?_, hO⟩
    rcases hv with rfl | rfl
    · exact zSi_21 (d := e + 2) h2 hkM w1 (by decide) rfl w2 (by omega) e1 hA
    · exact zSi_20 (d := e + 2) h2 hkM w1 (by decide) rfl w2 (by omega) e1 hA
  case inr.inr.inr.inr.inr.inr.inr.inr.inr.inl =>
    refine ⟨S1, v, ml ?_, hO⟩
    rcases hv with rfl | rfl
    · exact zSi_23 (d := e + 2) h2 hkM w1 (by decide) rfl w2 (by omega) e1 hA
    · exact zSi_22 (d := e + 2) h2 hkM w1 (by decide) rfl w2 (by omega) e1 hA
  case inr.inr.inr.inr.inr.inr.inr.inr.inr.inr =>
    refine ⟨S1, v, ml ?_, hO⟩
    rcases hv with rfl | rfl
    · exact zSi_25 (d := e + 2) h2 hkM w1 (by decide) rfl w2 (by omega) e1 hA
    · exact zSi_24 (d := e + 2) h2 hkM w1 (by decide) rfl w2 (by omega) e1 hA
  all_goals
    obtain ⟨b1, b2⟩ := z_bad (d := e + 8) (j := k) hX h1 h2 h3 h7 h9 h10 h11
    have hn : exs (qK β n) s k = none := exs_1st (by omega)
    have hP : psBind (qK β n) (qL β n) E s sc at' k = .inl (qL β n k) := by
      unfold psBind
      rw [hn]
      rfl
    rw [hP]
    exact ⟨_, nI 0, ml (zSi_26 (d := e + 2) h2 hkM w1 (by decide) rfl w2 (by omega) (by omega) (by omega) (by omega) (by omega) (by omega) (by omega) (by omega) (by omega) (by omega) (by omega) (by omega) (by omega) b1), Or.inl ⟨rfl, rfl, b2⟩⟩
end
