/-! THE NAME ON THE TAPE: what the class answers, and why -/
theorem FrL.refl (L1 L2 L3 : List Nat) (S : cS) : FrL L1 L2 L3 S S := ⟨rfl, fun _ _ => rfl, rfl, rfl, rfl, rfl, fun _ _ => rfl, fun _ _ => rfl⟩
theorem FrL_wI {L1 L2 L3 : List Nat} {S0 S : cS} {k : Nat} {v : Int32} (hk : k ∈ L1) (h : FrL L1 L2 L3 S0 S) : FrL L1 L2 L3 S0 (wI k v S) :=
  ⟨h.1, h.2.1, h.2.2.1, h.2.2.2.1, h.2.2.2.2.1, h.2.2.2.2.2.1, fun i hi => (rIn (k := k) v S (i := i) (fun e => hi (e ▸ hk))).trans (h.I hi), h.2.2.2.2.2.2.2⟩
theorem FrL_wA {L1 L2 L3 : List Nat} {S0 S : cS} {a k : Nat} {v : Int32} (ha : a ∈ L2) (h : FrL L1 L2 L3 S0 S) : FrL L1 L2 L3 S0 (wA a k v S) :=
  ⟨h.1, h.2.1, h.2.2.1, h.2.2.2.1, h.2.2.2.2.1, h.2.2.2.2.2.1, h.2.2.2.2.2.2.1, fun b hb => (rAn (a := a) k v S (b := b) (fun e => hb (e ▸ ha))).trans (h.A hb)⟩
theorem FrL_wL {L1 L2 L3 : List Nat} {S0 S : cS} {a k : Nat} {v : Int64} (ha : a ∈ L3) (h : FrL L1 L2 L3 S0 S) : FrL L1 L2 L3 S0 (wL a k v S) :=
  ⟨h.1, fun b hb => (rLn (a := a) k v S (b := b) (fun e => hb (e ▸ ha))).trans (h.2.1 b hb), h.2.2.1, h.2.2.2.1, h.2.2.2.2.1, h.2.2.2.2.2.1, h.2.2.2.2.2.2.1, h.2.2.2.2.2.2.2⟩
def t_al (S : cS) (x : Nat) : Prop := c_let (c_byte S x) = true ∨ c_dig (c_byte S x) = true
def t_H (S : cS) (n : Nat) : Int64 := e_H (c_byte S) n
def t_L (S : cS) (n : Nat) : Int64 := e_L (c_byte S) n
theorem nm_tH (S : cS) (n : Nat) : c_nmH S 0 n = t_H S n := (nmH_e S 0 n).trans (e_H_congr (fun i _ => by rw [Nat.zero_add]))
theorem nm_tL (S : cS) (n : Nat) : c_nmL S 0 n = t_L S n := (nmL_e S 0 n).trans (e_L_congr (fun i _ => by rw [Nat.zero_add]))
/-- a name, no word of the language -/
def tv (S : cS) (t : Nat) : Prop := 1 ≤ t ∧ t ≤ 12 ∧ c_let (c_byte S 0) = true ∧ (∀ x, x < t → t_al S x) ∧ ∀ q, q < 24 → ¬ c_is S (t_H S t) (t_L S t) q
/-- none -/
def tb (S : cS) (t : Nat) : Prop := t = 0 ∨ 12 < t ∨ (1 ≤ t ∧ t ≤ 12 ∧ c_let (c_byte S 0) = false) ∨ (1 ≤ t ∧ t ≤ 12 ∧ c_let (c_byte S 0) = true ∧ ∃ M, M < t ∧ (∀ x, x < M → t_al S x) ∧ ¬ t_al S M) ∨ (1 ≤ t ∧ t ≤ 12 ∧ c_let (c_byte S 0) = true ∧ (∀ x, x < t → t_al S x) ∧ ∃ q, q < 24 ∧ c_is S (t_H S t) (t_L S t) q)
theorem run_ex {P : Nat → Prop} : ∀ n : Nat, ∃ M, M ≤ n ∧ (∀ x, x < M → P x) ∧ (M = n ∨ ¬ P M) := by
  intro n
  induction n with
  | zero => exact ⟨0, Nat.le_refl _, fun x hx => by omega, Or.inl rfl⟩
  | succ n ih =>
    obtain ⟨M, h1, h2, h3⟩ := ih
    rcases h3 with h3 | h3
    · by_cases hp : P M
      · refine ⟨M + 1, by omega, fun x hx => ?_, Or.inl (by omega)⟩
        by_cases e : x = M
        · rw [e]; exact hp
        · exact h2 x (by omega)
      · exact ⟨M, by omega, h2, Or.inr hp⟩
    · exact ⟨M, by omega, h2, Or.inr h3⟩
theorem learn_FrL {S0 S : cS} {hi lo : Int64} {z b : Nat} (h : FrL [7, 3102, 3103, 3104, 3105, 3109, 1607] [19, 20] [17, 18] S0 S) : FrL [7, 3102, 3103, 3104, 3105, 3109, 1607] [19, 20] [17, 18] S0 (c_learn S hi lo z b) := by
  unfold c_learn
  exact FrL_wA (by decide) (FrL_wI (by decide) (FrL_wA (by decide) (FrL_wL (by decide) (FrL_wL (by decide) h))))
theorem only_FrL {S0 S : cS} {n : Nat} (h : FrL [7, 3102, 3103, 3104, 3105, 3109, 1607] [19, 20] [17, 18] S0 S) : FrL [7, 3102, 3103, 3104, 3105, 3109, 1607] [19, 20] [17, 18] S0 (c_only n S) := by
  unfold c_only
  exact FrL_wI (by decide) (FrL_wI (by decide) (FrL_wI (by decide) (FrL_wI (by decide) h)))
theorem learn_17 {S : cS} {hi lo : Int64} {z b q : Nat} : sL (c_learn S hi lo z b) 17 q = (if q = z then hi else sL S 17 q) ∧ sL (c_learn S hi lo z b) 18 q = (if q = z then lo else sL S 18 q) := by
  unfold c_learn
  constructor
  · rw [rAL, rIL, rAL, rLn _ _ _ (by decide), rLe]
    rfl
  · rw [rAL, rIL, rAL, rLe, rLn _ _ _ (by decide)]
    rfl
theorem tname_c {d t z : Nat} {S : cS} (h7 : sI S 7 = nI t) (hM : t ≤ 3000) (hN : c_NT S z) (hz : z < 4096) (h24 : 24 ≤ z) : ∃ S1 z', FrL [7, 3102, 3103, 3104, 3105, 3109, 1607] [19, 20] [17, 18] S S1 ∧ c_NT S1 z' ∧ (z' = z ∨ z' = z + 1) ∧ (∀ q, q < z → sL S1 17 q = sL S 17 q ∧ sL S1 18 q = sL S 18 q) ∧ sI S1 7 = nI 0 ∧ ((tb S t ∧ Ans (d + 5) 278 [.ref 0] S (some (.int (Int32.ofInt (-1)))) S1) ∨ (tv S t ∧ ∃ q, 24 ≤ q ∧ q < z' ∧ c_is S1 (t_H S t) (t_L S t) q ∧ Ans (d + 5) 278 [.ref 0] S (some (.int (nI q))) S1)) := by
  have hF0 : FrL [7, 3102, 3103, 3104, 3105, 3109, 1607] [19, 20] [17, 18] S (wI 7 (nI 0) S) := FrL_wI (by decide) (FrL.refl _ _ _ _)
  have hN0 : c_NT (wI 7 (nI 0) S) z := NT_I (by decide) hN
  have hcb : ∀ x, c_byte (wI 7 (nI 0) S) x = c_byte S x := fun x => rfl
  have f4 : ∀ n, sI (c_only n (wI 7 (nI 0) S)) 7 = nI 0 := fun n => by
    unfold c_only
    rw [rIn _ _ (by decide), rIn _ _ (by decide), rIn _ _ (by decide), rIn _ _ (by decide), rIe]
  by_cases h0 : t = 0
  · subst h0
    exact ⟨_, z, only_FrL hF0, only_NT hN0, Or.inl rfl, fun q _ => ⟨rfl, rfl⟩, f4 0, Or.inl ⟨Or.inl rfl, tapeName_no h7 (Ans.up (by omega) (onlyName_none (d := 0)))⟩⟩
  by_cases h12 : 12 < t
  · exact ⟨_, z, only_FrL hF0, only_NT hN0, Or.inl rfl, fun q _ => ⟨rfl, rfl⟩, f4 t, Or.inl ⟨Or.inr (Or.inl h12), tapeName_no h7 (Ans.up (by omega) (onlyName_long (d := 0) h12 hM))⟩⟩
  cases hl : c_let (c_byte S 0) with
  | false =>
    exact ⟨_, z, only_FrL hF0, only_NT hN0, Or.inl rfl, fun q _ => ⟨rfl, rfl⟩, f4 t, Or.inl ⟨Or.inr (Or.inr (Or.inl ⟨by omega, by omega, hl⟩)), tapeName_no h7 (Ans.up (by omega) (onlyName_no (d := 0) (by omega) (by omega) (hcb 0) (c_byte_eq S 0).2 hl))⟩⟩
  | true =>
    obtain ⟨M, m1, m2, m3⟩ := run_ex (P := fun x => t_al S x) t
    have hM1 : 1 ≤ M := by
      rcases m3 with e | e
      · omega
      · rcases Nat.eq_zero_or_pos M with e2 | e2
        · subst e2; exact absurd (Or.inl hl) e
        · exact e2
    have ha : ∀ x, x < M → c_al (wI 7 (nI 0) S) t x := fun x hx => ⟨by omega, m2 x hx⟩
    have he : ¬ c_al (wI 7 (nI 0) S) t M := fun c => by
      rcases m3 with e | e
      · have := c.1; omega
      · exact e c.2
    have hH : c_nmH (wI 7 (nI 0) S) 0 M = t_H S M := by rw [c_nmH_I, nm_tH]
    have hLo : c_nmL (wI 7 (nI 0) S) 0 M = t_L S M := by rw [c_nmL_I, nm_tL]
    have bad : M < t → tb S t := fun h => Or.inr (Or.inr (Or.inr (Or.inl ⟨by omega, by omega, hl, M, h, m2, m3.resolve_left (by omega)⟩)))
    have f5 : ∀ a b c, sI (wI 3105 a (wI 3109 b (wI 3103 c (c_only t (wI 7 (nI 0) S))))) 7 = nI 0 := fun a b c => by
      rw [rIn _ _ (by decide), rIn _ _ (by decide), rIn _ _ (by decide), f4]
    by_cases hex : ∃ q, q < z ∧ c_is S (t_H S M) (t_L S M) q
    · obtain ⟨q, hq, hi⟩ := hex
      have hi0 : c_is (wI 7 (nI 0) S) (c_nmH (wI 7 (nI 0) S) 0 M) (c_nmL (wI 7 (nI 0) S) 0 M) q := by rw [hH, hLo]; exact hi
      by_cases hq24 : q < 24
      · refine ⟨_, z, FrL_wI (by decide) (FrL_wI (by decide) (FrL_wI (by decide) (only_FrL hF0))), NT_I (by decide) (NT_I (by decide) (NT_I (by decide) (only_NT hN0))), Or.inl rfl, fun q _ => ⟨rfl, rfl⟩, f5 _ _ _, Or.inl ⟨?_, tapeName_no h7 (name_word (by omega) hM1 m1 ha he hl hN0 hz hq hq24 hi0)⟩⟩
        by_cases hMt : M < t
        · exact bad hMt
        · obtain rfl : M = t := by omega
          exact Or.inr (Or.inr (Or.inr (Or.inr ⟨by omega, by omega, hl, m2, q, hq24, hi⟩)))
      · by_cases hMt : M < t
        · exact ⟨_, z, FrL_wI (by decide) (FrL_wI (by decide) (FrL_wI (by decide) (only_FrL hF0))), NT_I (by decide) (NT_I (by decide) (NT_I (by decide) (only_NT hN0))), Or.inl rfl, fun q _ => ⟨rfl, rfl⟩, f5 _ _ _, Or.inl ⟨bad hMt, tapeName_no h7 (name_part (by omega) hM1 hMt ha he hl hN0 hz hq (by omega) hi0)⟩⟩
        · obtain rfl : M = t := by omega
          refine ⟨_, z, FrL_wI (by decide) (FrL_wI (by decide) (FrL_wI (by decide) (only_FrL hF0))), NT_I (by decide) (NT_I (by decide) (NT_I (by decide) (only_NT hN0))), Or.inl rfl, fun q _ => ⟨rfl, rfl⟩, f5 _ _ _, Or.inr ⟨⟨by omega, by omega, hl, m2, fun p hp hpi => ?_⟩, q, by omega, hq, hi, tapeName_is h7 (name_known (by omega) (by omega) ha hl hN0 hz hq (by omega) hi0)⟩⟩
          have := hN.2.2.1 p q (by omega) hq (hpi.1.trans hi.1.symm) (hpi.2.trans hi.2.symm)
          omega
    · have hno : ∀ i, i < z → ¬ c_is (wI 7 (nI 0) S) (c_nmH (wI 7 (nI 0) S) 0 M) (c_nmL (wI 7 (nI 0) S) 0 M) i := fun i hi hc => hex ⟨i, hi, by rw [hH, hLo] at hc; exact hc⟩
      by_cases hMt : M < t
      · obtain ⟨S2, hA, hN2, b, e⟩ := name_newp (d := d) (by omega) hM1 hMt ha he hl hN0 hz h24 hno
        refine ⟨S2, z + 1, ?_, hN2, Or.inr rfl, fun q hq => ?_, ?_, Or.inl ⟨bad hMt, tapeName_no h7 hA⟩⟩
        · rw [e]; exact FrL_wI (by decide) (FrL_wI (by decide) (learn_FrL (FrL_wI (by decide) (only_FrL hF0))))
        · rw [e, rIL, rIL, rIL, rIL, learn_17.1, learn_17.2, if_neg (by omega), if_neg (by omega)]
          exact ⟨rfl, rfl⟩
        · rw [e, rIn _ _ (by decide), rIn _ _ (by decide)]
          unfold c_learn
          rw [rAI, rIn _ _ (by decide), rAI, rLI, rLI, rIn _ _ (by decide), f4]
      · obtain rfl : M = t := by omega
        obtain ⟨S2, hA, hN2, b, e⟩ := name_new (d := d) (by omega) hM1 ha hl hN0 hz h24 hno
        refine ⟨S2, z + 1, ?_, hN2, Or.inr rfl, fun q hq => ?_, ?_, Or.inr ⟨⟨by omega, by omega, hl, m2, fun p hp hpi => hex ⟨p, by omega, hpi⟩⟩, z, h24, by omega, ?_, tapeName_is h7 hA⟩⟩
        · rw [e]; exact FrL_wI (by decide) (FrL_wI (by decide) (learn_FrL (FrL_wI (by decide) (only_FrL hF0))))
        · rw [e, rIL, rIL, rIL, rIL, learn_17.1, learn_17.2, if_neg (by omega), if_neg (by omega)]
          exact ⟨rfl, rfl⟩
        · rw [e, rIn _ _ (by decide), rIn _ _ (by decide)]
          unfold c_learn
          rw [rAI, rIn _ _ (by decide), rAI, rLI, rLI, rIn _ _ (by decide), f4]
        · unfold c_is
          rw [e, rIL, rIL, rIL, rIL, learn_17.1, learn_17.2, if_pos rfl, if_pos rfl, hH, hLo]
          exact ⟨rfl, rfl⟩
