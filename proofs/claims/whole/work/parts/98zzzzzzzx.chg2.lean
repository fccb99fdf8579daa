/-! THE CLASS'S HEAP: an entry is set, deleted; what nothing holds then goes -/
section
variable {d t k kd z z' o oo w e a N : Nat} {S X : cS} {g : Nat → Nat} {hi lo : Int64}
theorem seqN_app {f : Nat → Nat} : ∀ (r s i : Nat), seqN f i (r + s) = seqN f i r ++ seqN f (i + r) s := by
  intro r
  induction r with
  | zero => intro s i; rw [Nat.zero_add]; rfl
  | succ r ih =>
    intro s i
    rw [Nat.succ_add]
    show f i :: seqN f (i + 1) (r + s) = f i :: (seqN f (i + 1) r ++ seqN f (i + (r + 1)) s)
    rw [ih, show i + 1 + r = i + (r + 1) by omega]
theorem seqN_sh {f g : Nat → Nat} : ∀ (r i : Nat), (∀ j, i ≤ j → j < i + r → g j = f (j + 1)) → seqN g i r = seqN f (i + 1) r := by
  intro r
  induction r with
  | zero => intro i _; rfl
  | succ r ih =>
    intro i h
    show g i :: seqN g (i + 1) r = f (i + 1) :: seqN f (i + 1 + 1) r
    rw [h i (Nat.le_refl _) (by omega), ih (i + 1) (fun j h1 h2 => h j (by omega) (by omega))]
/-- one value in the place of another -/
theorem seq_set {f g : Nat → Nat} {e z q : Nat} (he : e < z) (hg : ∀ j, j < z → j ≠ e → g j = f j) : (seqN g 0 z).count q + (if f e = q then 1 else 0) = (seqN f 0 z).count q + (if g e = q then 1 else 0) := by
  obtain ⟨s, rfl⟩ : ∃ s, z = e + (1 + s) := ⟨z - e - 1, by omega⟩
  rw [seqN_app, seqN_app, seqN_app, seqN_app, List.count_append, List.count_append, List.count_append, List.count_append, seqN_congr (f := g) (g := f) (r := e) (i := 0) (fun j _ hj => hg j (by omega) (by omega)), seqN_congr (f := g) (g := f) (r := s) (i := 0 + e + 1) (fun j h1 h2 => hg j (by omega) (by omega))]
  have e1 : ∀ h : Nat → Nat, (seqN h (0 + e) 1).count q = if h e = q then 1 else 0 := fun h => by
    show ([h (0 + e)]).count q = _
    rw [count_cons', List.count_nil, Nat.zero_add, Nat.zero_add]
  rw [e1 g, e1 f]
  omega
/-- one value goes, those behind move up -/
theorem seq_del {f g : Nat → Nat} {e z q : Nat} (he : e < z) (h1 : ∀ j, j < e → g j = f j) (h2 : ∀ j, e ≤ j → j + 1 < z → g j = f (j + 1)) : (seqN g 0 (z - 1)).count q + (if f e = q then 1 else 0) = (seqN f 0 z).count q := by
  obtain ⟨s, rfl⟩ : ∃ s, z = e + (1 + s) := ⟨z - e - 1, by omega⟩
  rw [show e + (1 + s) - 1 = e + s by omega, seqN_app, seqN_app, seqN_app, List.count_append, List.count_append, List.count_append, seqN_congr (f := g) (g := f) (r := e) (i := 0) (fun j _ hj => h1 j (by omega)), seqN_sh (f := f) (g := g) s (0 + e) (fun j h3 h4 => h2 j (by omega) (by omega))]
  have e1 : (seqN f (0 + e) 1).count q = if f e = q then 1 else 0 := by
    show ([f (0 + e)]).count q = _
    rw [count_cons', List.count_nil, Nat.zero_add, Nat.zero_add]
  rw [e1]
  omega
theorem if_dl {q : Nat} (hq : 1 ≤ q) : (if oo = q then 1 else 0) = dl oo q := by
  unfold dl
  by_cases e : oo = q
  · rw [if_pos e, if_pos ⟨by omega, e.symm⟩]
  · rw [if_neg e, if_neg (fun c => e c.2.symm)]
/-- what k holds has changed in its row: oo is to be let go -/
theorem chg_T (h : mHS 0 g t S) (hR : rwL S) (hk : lv S k) (hq : sQ S 11 k = some a) (ha : 108 ≤ a) (hFX : FrL [] [4, 10] [a] S X) (h4 : ∀ q, sA X 4 q = sA S 4 q + nI (dl o q)) (h10 : ∀ j, j ≠ k → sA X 10 j = sA S 10 j) (hokX : h_ok X k) (hcnt : ∀ q, 1 ≤ q → (tgs X k).count q + dl oo q = (tgs S k).count q + dl o q) (hoo : oo = 0 ∨ lv S oo) (hmem : ∀ q, q ∈ tgs X k → q = 0 ∨ lv S q) : ∃ W D, Ans (d + 3) 142 [.ref 2, .ref 4, .int (nI oo)] X none W ∧ mHS 0 g t W ∧ rwL W ∧ CFm S W ∧ KX D X W ∧ sL W = sL X ∧ (∀ j, 1 ≤ j → j ≤ 1500 → j ≠ k → obE S X j) ∧ h_cl X ∧ (∀ j, 1 ≤ j → j ≤ 1500 → h_ok X j) ∧ (∀ q, q ∈ D → g q = 0 ∧ stE t S q = 0 ∧ nmE S q = 0) ∧ (∀ q, lv X q ↔ lv S q) := by
  have e3 : sA X 3 = sA S 3 := hFX.A (by decide)
  have hQ : sQ X = sQ S := hFX.2.2.2.1
  have hlv : ∀ q, lv X q ↔ lv S q := fun q => by unfold lv; rw [e3]
  have hrw : ∀ j, h_row X j = h_row S j := fun j => by unfold h_row; rw [hQ]
  have hne : ∀ j, 1 ≤ j → j ≤ 1500 → j ≠ k → h_row S j ≠ a := fun j j1 j2 hj c => by
    unfold h_row at c
    cases hq0 : sQ S 11 j with
    | none => rw [hq0] at c; have : (0 : Nat) = a := c; omega
    | some b =>
      rw [hq0] at c
      have c' : b = a := c
      subst c'
      exact hj (h.1.2.2.2.2.1 j k b j2 hk.2.1 hq0 hq)
  have hob : ∀ j, 1 ≤ j → j ≤ 1500 → j ≠ k → obE S X j := fun j j1 j2 hj => obE_of (by rw [e3]) (by rw [hFX.A (by decide)]) (by rw [hFX.A (by decide)]) (by rw [hFX.A (by decide)]) (h10 j hj) (hrw j) (hFX.2.1 _ (by simpa using hne j j1 j2 hj))
  have hL : ∀ b, b < 108 → sL X b = sL S b := fun b hb => hFX.2.1 b (by simpa using (show b ≠ a by omega))
  have eS : ∀ T : cS, sL T = sL X → stE t T = stE t S := fun T hT => stE_L (fun i _ => by rw [hT, hL 47 (by omega), hL 48 (by omega)]; exact ⟨rfl, rfl⟩)
  have eN : ∀ T : cS, sL T = sL X → nmE T = nmE S ∧ nmB T = nmB S := fun T hT => by
    constructor
    · funext q
      unfold nmE
      rw [hT, hL 21 (by omega), hL 22 (by omega)]
    · unfold nmB
      rw [hT, hL 21 (by omega)]
  have hh : ∀ q, 1 ≤ q → heldBy X q + dl oo q = heldBy S q + dl o q := fun q hq1 => by
    have := held_ch (q := q) hk.1 hk.2.1 (Hp_0 h.1) hk.2.2 e3 hob
    have := hcnt q hq1
    omega
  have hok : ∀ j, 1 ≤ j → j ≤ 1500 → h_ok X j := fun j j1 j2 => by
    by_cases hj : j = k
    · rw [hj]; exact hokX
    · obtain ⟨kd', z', x', y', b1, b2, b3, b4, b5, b6, b7, b8, b9, b10, b11⟩ := h.1.1 j j1 j2
      refine ⟨kd', z', x', y', b1, by rw [e3]; exact b2, by rw [h10 j hj]; exact b3, by rw [hFX.A (by decide)]; exact b4, by rw [hFX.A (by decide)]; exact b5, b6, b7, b8, b9, by rw [hQ]; exact b10, ?_⟩
      rw [hQ, hFX.2.2.2.2.1]
      intro b hb
      have hba : b ≠ a := fun e => hne j j1 j2 hj (by unfold h_row; rw [hb]; exact e)
      rw [hFX.2.1 b (by simpa using hba)]
      exact b11 b hb
  have hdl : ∀ p q, dl p q ≤ 1 := fun p q => by unfold dl; split <;> omega
  have hP : Hp (dl oo) (nmE S) (fun k => stE t S k + g k) X := Hp_ch (k := k) h.1 e3 hob (fun i _ => hFX.I List.not_mem_nil) (hFX.A (by decide)) (hFX.A (by decide)) hok (by unfold h_ds; rw [hQ]; exact h.1.2.2.2.2.1) (fun _ => hmem) (fun q q1 q2 => by
    obtain ⟨p4, p5, p6, p7, p8, p9⟩ := h.1.2.2.2.2.2 q q1 q2
    refine ⟨?_, by rw [hFX.A (by decide)]; exact p5, by rw [hFX.A (by decide)]; exact p6, by have := hdl oo q; omega, p8, p9⟩
    have := hh q q1
    rw [h4 q, p4, nI_add]
    exact congrArg nI (by unfold no_e; omega))
  have hoo2 : oo ≤ 1500 := by rcases hoo with e | e; omega; exact e.2.1
  obtain ⟨W, D, hA, c1, c2, c3, c4⟩ := release4 (d := d) (k := oo) (S := X) (e5 := nmE S) (e6 := fun k => stE t S k + g k) hoo2 (hoo.imp id (fun c => by rw [e3]; exact c.2.2)) hP (fun q q1 q2 q3 qn => by
    rw [e3] at q3
    have h1 := h.2.1 q ⟨q1, q2, q3⟩ (by omega)
    have h2 := hh q q1
    rw [dl_n qn] at h2
    omega)
  have eL : sL W = sL X := c3.1.2.1
  have hK : KX D X W := KX_Kill (FrL.refl _ _ _ _) hok c3
  have hlvW := lv_KX hK
  have hD : ∀ q, q ∈ D → g q = 0 ∧ stE t S q = 0 ∧ nmE S q = 0 := fun q hq => by
    have := c4 q hq
    omega
  have hCX : CFm S X := by
    have e1 : rwC X = rwC S := sumN_congr (fun k _ => by rw [rlen_S hQ hFX.2.2.2.2.1])
    have e2 : rwN X = rwN S := sumN_congr (fun k _ => by rw [rlen_S hQ hFX.2.2.2.2.1])
    exact ⟨hFX.1, hFX.2.2.1, fun i _ => hFX.I List.not_mem_nil, fun b hb => hFX.A (fun c => hb (by
      rcases List.mem_cons.mp c with e | c
      · rw [e]; decide
      · rw [List.mem_singleton.mp c]; decide)), fun b hb _ => hL b hb, fun b _ _ hb => hFX.2.1 b (by simpa using (fun e : b = a => hb k hk.2.1 (by rw [e]; exact hq))), fun b _ => by rw [hQ], ⟨[], by rw [hFX.2.2.2.2.1, List.append_nil]⟩, fun j b _ hb => Or.inl (by rw [← hQ]; exact hb), by rw [hFX.2.2.2.2.2.1, e1]; omega, by rw [hFX.2.2.2.2.1, e2]; omega⟩
  have hRX : rwL X := fun j b hj hb => by
    rw [hQ] at hb
    rw [hFX.2.2.2.2.1]
    exact hR j b hj hb
  refine ⟨W, D, hA, ⟨by rw [(eN W eL).1, eS W eL]; exact c1, fun q hq _ => ?_, ?_, h.2.2.2.1, fun i hi => ?_, fun i hi => ?_, fun q hq => ?_, ?_, h.2.2.2.2.2.2.2.2⟩, rwL_FrL hK.1 hRX, hCX.trans (CFm_KX hK), hK, eL, hob, hP.2.2.2.1, hok, hD, hlv⟩
  · have := c2 q hq.1 hq.2.1 hq.2.2
    rw [(eN W eL).1, eS W eL]
    unfold no_e at this
    omega
  · have h1 : sI W 4603 = sI X 4603 := c3.1.I (by decide)
    rw [h1, hFX.I List.not_mem_nil]
    exact h.2.2.1
  · obtain ⟨q, q1, q2, q3⟩ := h.2.2.2.2.1 i hi
    refine ⟨q, q1, by rw [eL, hL 47 (by omega), hL 48 (by omega)]; exact q2, q3.imp id (fun c => (hlvW q).mpr ⟨(hlv q).mpr c, fun hm => ?_⟩)⟩
    have := (hD q hm).2.1
    have := stE_pos hi (ob_n q2 q1)
    omega
  · obtain ⟨q, q1, q2, q3⟩ := h.2.2.2.2.2.1 i hi
    refine ⟨q, q1, by rw [eL, hL 21 (by omega), hL 22 (by omega)]; exact q2, q3.imp id (fun c => (hlvW q).mpr ⟨(hlv q).mpr c, fun hm => ?_⟩)⟩
    have h1 := (hD q hm).2.2
    have h2 := sumN_pos (f := fun i => if ob (sL S 21 i) (sL S 22 i) = q then 1 else 0) (k := i) (n := 4096) hi
    rw [if_pos (ob_n q2 q1)] at h2
    have h3 : 0 < nmE S q := h2
    omega
  · refine (hlvW q).mpr ⟨(hlv q).mpr (h.2.2.2.2.2.2.1 q hq), fun hm => ?_⟩
    have := (hD q hm).1
    omega
  · have h1 : sI W 1608 = sI X 1608 := c3.1.I (by decide)
    rw [h1, hFX.I List.not_mem_nil, (eN W eL).2]
    exact h.2.2.2.2.2.2.2.1
end
