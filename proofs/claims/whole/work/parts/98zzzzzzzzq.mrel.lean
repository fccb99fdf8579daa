/-! THE MACHINES' HEAPS IN STEP: an object of the class (seen at Sc) and a thing of the reference (seen at Sr) -/
/-- thing r of the reference: its address, its arrays and their lengths -/
def tRef (Sr : cS) (r t v2 v3 v4 v5 v6 v7 n m : Nat) : Prop := sQ Sr 86 r = some t ∧ 108 ≤ t ∧ (∃ N, (sS Sr)[t - 108]? = some (13, N)) ∧ sV Sr (100 * t + 2) = .ref v2 ∧ sV Sr (100 * t + 3) = .ref v3 ∧ sV Sr (100 * t + 4) = .ref v4 ∧ sV Sr (100 * t + 5) = .ref v5 ∧ sV Sr (100 * t + 6) = .ref v6 ∧ sV Sr (100 * t + 7) = .ref v7 ∧ isK Sr v2 0 n ∧ isK Sr v3 0 m ∧ isK Sr v4 1 n ∧ isK Sr v5 1 n ∧ isK Sr v6 1 m ∧ isK Sr v7 1 m ∧ n < 2 ^ 20 ∧ m < 2 ^ 20 ∧ 108 ≤ v2 ∧ 108 ≤ v3 ∧ 108 ≤ v4 ∧ 108 ≤ v5 ∧ 108 ≤ v6 ∧ 108 ≤ v7
/-- links: none is 0 of the class, -1 of the reference -/
def lkR (β : Nat → Nat) (x y : Int32) : Prop := (x = 0 ∧ y = Int32.ofInt (-1)) ∨ ∃ k, 1 ≤ k ∧ k ≤ 1500 ∧ x = nI k ∧ y = nI (β k)
/-- keys: a dict's are values, those of a class and of what is made of one are names -/
def keyR (β : Nat → Nat) (Sr : cS) (g0 g1 nn kd : Nat) (kh kl : Int64) (kk : Int32) (ka kb : Int64) : Prop := if kd = 2 then vrel β kh kl kk ka kb ∧ (kk = nI 1 → kb = 0) ∧ (kk = nI 1 ∨ kk = nI 2) else kk = nI 0 ∧ kb = 0 ∧ ∃ r, r < nn ∧ ka = lN r ∧ rnH Sr g0 g1 r = kh ∧ rnL Sr g0 g1 r = kl
def h_kh (S : cS) (k e : Nat) : Int64 := sL S (h_row S k) (4 * e)
def h_kl (S : cS) (k e : Nat) : Int64 := sL S (h_row S k) (4 * e + 1)
/-- F f m j: function f of the class is function j of code m; a class's name -/
def inR (F : Nat → Nat → Nat → Prop) (Sc Sr : cS) (g0 g1 nn k t : Nat) : Prop := (sA Sc 3 k = nI 3 → ∃ f m j r, sA Sc 9 k = nI f ∧ sV Sr (100 * t + 8) = .ref m ∧ sI Sr (100 * t + 9) = nI j ∧ F f m j ∧ 108 ≤ m ∧ sI Sr (100 * t + 10) = nI r ∧ F f 1 r) ∧ (sA Sc 3 k = nI 4 → ∃ q r, sA Sc 9 k = nI q ∧ sI Sr (100 * t + 10) = nI r ∧ r < nn ∧ nrel Sr g0 g1 q r)
def obR (β : Nat → Nat) (F : Nat → Nat → Nat → Prop) (Sc Sr : cS) (g0 g1 nn k : Nat) : Prop := β k < 1500 ∧ sA Sr 87 (β k) ≠ 0 ∧ ∃ t v2 v3 v4 v5 v6 v7 n m : Nat, tRef Sr (β k) t v2 v3 v4 v5 v6 v7 n m ∧ sI Sr (100 * t + 0) = sA Sc 3 k ∧ sI Sr (100 * t + 1) = nI (h_n Sc k) ∧ h_n Sc k ≤ n ∧ (∀ i, i < h_n Sc k → vrel β (h_hi Sc k i) (h_lo Sc k i) (sA Sr v2 i) (sL Sr v4 i) (sL Sr v5 i)) ∧ (c_width (h_kd Sc k) = 4 → h_n Sc k ≤ m ∧ ∀ i, i < h_n Sc k → keyR β Sr g0 g1 nn (h_kd Sc k) (h_kh Sc k i) (h_kl Sc k i) (sA Sr v3 i) (sL Sr v6 i) (sL Sr v7 i)) ∧ lkR β (sA Sc 7 k) (sI Sr (100 * t + 11)) ∧ lkR β (sA Sc 8 k) (sI Sr (100 * t + 12)) ∧ inR F Sc Sr g0 g1 nn k t
section
variable {β : Nat → Nat} {F : Nat → Nat → Nat → Prop} {Sc Sc' Sr : cS} {g0 g1 nn k : Nat}
theorem obE_key {e : Nat} (h : obE Sc Sc' k) (hw : c_width (h_kd Sc k) = 4) (he : e < h_z Sc k) : h_kh Sc' k e = h_kh Sc k e ∧ h_kl Sc' k e = h_kl Sc k e := by
  have h6 := h.2.2.2.2.2
  rw [hw] at h6
  exact ⟨h6 (4 * e) (by omega), h6 (4 * e + 1) (by omega)⟩
/-- the class's object is as it was -/
theorem obR_c (h : obR β F Sc Sr g0 g1 nn k) (e : obE Sc Sc' k) : obR β F Sc' Sr g0 g1 nn k := by
  obtain ⟨b1, b2, t, v2, v3, v4, v5, v6, v7, n, m, c1, c2, c3, c4, c5, c6, c7, c8, c9⟩ := h
  obtain ⟨ek, ez⟩ := obE_kd e
  have en : h_n Sc' k = h_n Sc k := by unfold h_n; rw [ek, ez]
  have hnz : ∀ i, i < h_n Sc k → c_width (h_kd Sc k) ≠ 0 ∧ i < h_z Sc k := fun i hi => by
    unfold h_n at hi
    split at hi
    · omega
    · rename_i h0
      exact ⟨h0, hi⟩
  refine ⟨b1, b2, t, v2, v3, v4, v5, v6, v7, n, m, c1, by rw [e.1]; exact c2, by rw [en]; exact c3, by rw [en]; exact c4, fun i hi => ?_, fun hw => ?_, by rw [e.2.1]; exact c7, by rw [e.2.2.1]; exact c8, ?_⟩
  · rw [en] at hi
    obtain ⟨a1, a2⟩ := hnz i hi
    obtain ⟨x1, x2⟩ := obE_ent e a1 a2
    rw [x1, x2]
    exact c5 i hi
  · rw [ek] at hw
    rw [en, ek]
    obtain ⟨d1, d2⟩ := c6 hw
    refine ⟨d1, fun i hi => ?_⟩
    obtain ⟨x1, x2⟩ := obE_key e hw (hnz i hi).2
    rw [x1, x2]
    exact d2 i hi
  · unfold inR
    rw [e.1, e.2.2.2.1]
    exact c9
end
