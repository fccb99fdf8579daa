/-! THE MACHINES, STEP BY STEP: the class's state between two steps -/
/-- a frame of a scope: none for scope 0 -/
def ftO (ty : Nat → Nat × Nat) (S : cS) (m s a : Nat) : Prop := (s = 0 → a = 0) ∧ (s ≠ 0 → lv S a ∧ sA S 3 a = nI 7 ∧ ty a = (m, s))
/-- an object is what its kind says: its links -/
def tyO (F : Nat → Nat → Nat → Prop) (loc par : Nat → Nat → Nat) (ty : Nat → Nat × Nat) (S : cS) (k : Nat) : Prop :=
  (sA S 3 k = nI 1 ∨ sA S 3 k = nI 2 → sA S 7 k = nI 0 ∧ sA S 8 k = nI 0) ∧
  (sA S 3 k = nI 3 → sA S 8 k = nI 0 ∧ ∃ f m j a, sA S 9 k = nI f ∧ (F f m j ∧ 108 ≤ m) ∧ sA S 7 k = nI a ∧ ftO ty S m (par m (j + 1)) a) ∧
  (sA S 3 k = nI 4 → sA S 8 k = nI 0 ∧ ∃ a, sA S 7 k = nI a ∧ (a = 0 ∨ (lv S a ∧ sA S 3 a = nI 4 ∧ (ty a).2 < (ty k).2))) ∧
  (sA S 3 k = nI 5 → sA S 8 k = nI 0 ∧ ∃ a, sA S 7 k = nI a ∧ lv S a ∧ sA S 3 a = nI 4) ∧
  (sA S 3 k = nI 6 → ∃ a b, sA S 7 k = nI a ∧ lv S a ∧ sA S 3 a = nI 3 ∧ sA S 8 k = nI b ∧ lv S b ∧ sA S 3 b = nI 5) ∧
  (sA S 3 k = nI 7 → sA S 8 k = nI 0 ∧ ∃ a, sA S 7 k = nI a ∧ (ty k).2 ≠ 0 ∧ h_z S k = loc (ty k).1 (ty k).2 ∧ ftO ty S (ty k).1 (par (ty k).1 (ty k).2) a)
/-- its values -/
def vlO (S : cS) (k : Nat) : Prop := (∀ i, i < h_n S k → c_kind (h_hi S k i) ≠ nI 5 ∧ (sA S 3 k ≠ nI 7 → c_kind (h_hi S k i) ≠ 0)) ∧ (sA S 3 k = nI 2 → ∀ i, i < h_n S k → c_kind (h_kh S k i) = nI 2 ∨ c_kind (h_kh S k i) = nI 3)
def cRg (S : cS) (C : List Lv) : Prop := match C with
  | [] => False
  | x :: r => sI S 5213 = nI r.length ∧ sI S 5214 = nI (vT x + vU x) ∧ sI S 5215 = nI (vF x) ∧ r.length ≤ 30
/-- the class between two steps -/
def CI (F : Nat → Nat → Nat → Prop) (loc par : Nat → Nat → Nat) (ty : Nat → Nat × Nat) (G : Nat → Nat → Nat → Nat × Nat × LL → Prop) (tq : Nat → Nat × Nat) (C : List Lv) (S : cS) : Prop :=
  mHS 0 (gC C) (topC C) S ∧ rwL S ∧ stkC S C ∧ (∀ k, lv S k → tyO F loc par ty S k ∧ vlO S k) ∧ cCal S C ∧ lvOk G ty S C ∧ cRg S C ∧ triC G tq S C ∧ (∀ q, q < 4096 → c_kind (sL S 21 q) ≠ nI 5)
section
variable {F : Nat → Nat → Nat → Prop} {loc par : Nat → Nat → Nat} {ty : Nat → Nat × Nat} {G : Nat → Nat → Nat → Nat × Nat × LL → Prop} {tq : Nat → Nat × Nat} {S S' : cS} {C r : List Lv} {x y : Lv} {k t n v p q : Nat} {K : List Nat} {hi lo : Int64}
theorem dl_s {k : Nat} (h : k ≠ 0) : dl k k = 1 := if_pos ⟨h, rfl⟩
theorem gC_pos (hy : y ∈ C) : (vF y ≠ 0 → 0 < gC C (vF y)) ∧ (vD y ≠ 0 → 0 < gC C (vD y)) := by
  induction C with
  | nil => cases hy
  | cons x r ih =>
    rcases List.mem_cons.mp hy with e | hy
    · subst e
      refine ⟨fun h => ?_, fun h => ?_⟩
      · show 0 < dl (vF y) (vF y) + dl (vD y) (vF y) + gC r (vF y)
        rw [dl_s h]; omega
      · show 0 < dl (vF y) (vD y) + dl (vD y) (vD y) + gC r (vD y)
        rw [dl_s h]; omega
    · obtain ⟨i1, i2⟩ := ih hy
      refine ⟨fun h => ?_, fun h => ?_⟩
      · have := i1 h
        show 0 < dl (vF x) (vF y) + dl (vD x) (vF y) + gC r (vF y)
        omega
      · have := i2 h
        show 0 < dl (vF x) (vD y) + dl (vD x) (vD y) + gC r (vD y)
        omega
/-- objects that live on are as they were -/
theorem ftO_K {m s a : Nat} (h : ftO ty S m s a) (hk : ∀ o, lv S o → (a = o → lv S' o) ∧ (lv S' o → sA S' 3 o = sA S 3 o)) : ftO ty S' m s a :=
  ⟨h.1, fun h0 => by
    obtain ⟨h1, h2, h3⟩ := h.2 h0
    have hl := (hk a h1).1 rfl
    exact ⟨hl, by rw [(hk a h1).2 hl]; exact h2, h3⟩⟩
theorem tyO_L (h : tyO F loc par ty S k) (e3 : sA S' 3 k = sA S 3 k) (e7 : sA S' 7 k = sA S 7 k) (e8 : sA S' 8 k = sA S 8 k) (e9 : sA S' 9 k = sA S 9 k) (e10 : sA S 3 k = nI 7 → sA S' 10 k = sA S 10 k) (hk : ∀ o, lv S o → (o ∈ tgs S k → lv S' o) ∧ (lv S' o → sA S' 3 o = sA S 3 o)) : tyO F loc par ty S' k := by
  obtain ⟨h1, h2, h3, h4, h5, h6⟩ := h
  have m7 : ∀ a, sA S 7 k = nI a → ∀ o, lv S o → a = o → o ∈ tgs S k := fun a ha o ho he => by
    subst he
    have : gN (sA S 7 k) = a := by rw [ha, gN_nI (by have := ho.2.1; omega)]
    rw [← this]
    exact List.mem_cons_self
  have m8 : ∀ a, sA S 8 k = nI a → lv S a → a ∈ tgs S k := fun a ha ho => by
    have : gN (sA S 8 k) = a := by rw [ha, gN_nI (by have := ho.2.1; omega)]
    rw [← this]
    exact List.mem_cons_of_mem _ List.mem_cons_self
  have one : ∀ a b, sA S 7 k = nI a → lv S a → sA S 3 a = nI b → lv S' a ∧ sA S' 3 a = nI b := fun a b ha hl hb => by
    have hl' := (hk a hl).1 (m7 a ha a hl rfl)
    exact ⟨hl', by rw [(hk a hl).2 hl']; exact hb⟩
  refine ⟨fun c => ?_, fun c => ?_, fun c => ?_, fun c => ?_, fun c => ?_, fun c => ?_⟩
  · rw [e3] at c; rw [e7, e8]; exact h1 c
  · rw [e3] at c
    obtain ⟨g1, f, m, j, a, g2, g3, g4, g5⟩ := h2 c
    exact ⟨by rw [e8]; exact g1, f, m, j, a, by rw [e9]; exact g2, g3, by rw [e7]; exact g4, ftO_K g5 (fun o ho => ⟨fun c => (hk o ho).1 (m7 a g4 o ho c), (hk o ho).2⟩)⟩
  · rw [e3] at c
    obtain ⟨g1, a, g2, g3⟩ := h3 c
    refine ⟨by rw [e8]; exact g1, a, by rw [e7]; exact g2, ?_⟩
    rcases g3 with g3 | ⟨g3, g4, g5⟩
    · exact Or.inl g3
    · exact Or.inr ⟨(one a 4 g2 g3 g4).1, (one a 4 g2 g3 g4).2, g5⟩
  · rw [e3] at c
    obtain ⟨g1, a, g2, g3, g4⟩ := h4 c
    exact ⟨by rw [e8]; exact g1, a, by rw [e7]; exact g2, one a 4 g2 g3 g4⟩
  · rw [e3] at c
    obtain ⟨a, b, g1, g2, g3, g4, g5, g6⟩ := h5 c
    obtain ⟨o1, o2⟩ := one a 3 g1 g2 g3
    have hl' := (hk b g5).1 (m8 b g4 g5)
    exact ⟨a, b, by rw [e7]; exact g1, o1, o2, by rw [e8]; exact g4, hl', by rw [(hk b g5).2 hl']; exact g6⟩
  · rw [e3] at c
    obtain ⟨g1, a, g2, g3, g4, g5⟩ := h6 c
    exact ⟨by rw [e8]; exact g1, a, by rw [e7]; exact g2, g3, by unfold h_z at g4 ⊢; rw [e10 c]; exact g4, ftO_K g5 (fun o ho => ⟨fun c => (hk o ho).1 (m7 a g2 o ho c), (hk o ho).2⟩)⟩
theorem tyO_K (h : tyO F loc par ty S k) (e : obE S S' k) (hk : ∀ o, lv S o → (o ∈ tgs S k → lv S' o) ∧ (lv S' o → sA S' 3 o = sA S 3 o)) : tyO F loc par ty S' k := tyO_L h e.1 e.2.1 e.2.2.1 e.2.2.2.1 (fun _ => e.2.2.2.2.1) hk
theorem vlO_K (h : vlO S k) (e : obE S S' k) : vlO S' k := by
  obtain ⟨ek, ez⟩ := obE_kd e
  have en : h_n S' k = h_n S k := by unfold h_n; rw [ek, ez]
  have hnz : ∀ i, i < h_n S k → c_width (h_kd S k) ≠ 0 ∧ i < h_z S k := fun i hi => by
    unfold h_n at hi
    split at hi
    · omega
    · rename_i h0
      exact ⟨h0, hi⟩
  refine ⟨fun i hi => ?_, fun h2 i hi => ?_⟩
  · rw [en] at hi
    obtain ⟨a1, a2⟩ := hnz i hi
    rw [(obE_ent e a1 a2).1, e.1]
    exact h.1 i hi
  · rw [e.1] at h2
    rw [en] at hi
    have hw : c_width (h_kd S k) = 4 := by
      unfold h_kd
      rw [h2, gN_nI (by omega)]
      rfl
    rw [(obE_key e hw (hnz i hi).2).1]
    exact h.2 h2 i hi
/-- the stack below n is as it was, and what lies there lives on -/
theorem mkOk_K {b h n : Nat} {l : LL} (hm : mkOk S b h l) (hb : b + h ≤ n) (hl : lob l ≤ h) (hs : srt l.1) (e : ∀ i, i < n → sL S' 47 i = sL S 47 i ∧ sL S' 48 i = sL S 48 i) (hv : stLv n S') (hk : ∀ o, lv S' o → sA S' 3 o = sA S 3 o) : mkOk S' b h l := by
  have low : ∀ (l : List (Nat × Nat)) (s : Nat), srt l → ∀ y w, (y, w) ∈ l → y + w ≤ lob (l, s) := by
    intro l s
    induction l with
    | nil => intro _ y w h; cases h
    | cons z l ih =>
      intro hs y w hy
      have e : lob (z :: l, s) = z.1 + z.2 := rfl
      rcases List.mem_cons.mp hy with c | c
      · rw [e, ← c]; exact Nat.le_refl _
      · have := ih hs.2 y w c
        have h1 := hs.1
        have e2 : lob (l, s) = lob (l, 0) := rfl
        omega
  refine ⟨fun i hi => ?_, fun y hy => ?_⟩
  · rw [(e (b + i) (by omega)).1]
    exact hm.1 i hi
  · have hy2 := low l.1 l.2 hs y 2 hy
    have hy3 : y + 2 ≤ lob l := hy2
    obtain ⟨⟨o, o1, o2, o3, o4⟩, i, i1, i2, i3⟩ := hm.2 y hy
    obtain ⟨c1, c2⟩ := e (b + y) (by omega)
    obtain ⟨c3, c4⟩ := e (b + (y + 1)) (by omega)
    obtain ⟨o', p1, p2, p3⟩ := hv (b + y) (by omega)
    have : o' = o := by
      rw [c1, c2, o3, o4, (ob_obj o1.2.1).1] at p2
      have := congrArg gN p2
      rw [gN_nI (by have := o1.2.1; omega), gN_nI (by omega)] at this
      exact this.symm
    subst this
    have hl' := p3.resolve_left (by have := o1.1; omega)
    exact ⟨⟨o', hl', by rw [hk o' hl']; exact o2, by rw [c1]; exact o3, by rw [c2]; exact o4⟩, i, i1, by rw [c3]; exact i2, by rw [c4]; exact i3⟩
theorem stkC_K {n : Nat} (h : stkC S C) (hn : ∀ y, y ∈ C → vB y + vH y ≤ n) (e : ∀ i, i < n → sL S' 47 i = sL S 47 i ∧ sL S' 48 i = sL S 48 i) (hv : stLv n S') (hk : ∀ o, lv S' o → sA S' 3 o = sA S 3 o) : stkC S' C := by
  induction C with
  | nil => exact h
  | cons x r ih =>
    obtain ⟨h1, h2, h3⟩ := h
    exact ⟨mkOk_K h1 (hn x List.mem_cons_self) h2.2.2.1 h2.2.1 e hv hk, h2, ih h3 (fun y hy => hn y (List.mem_cons_of_mem _ hy))⟩
/-- the values of a level lie below those of the next -/
theorem cCal_lo (h : cCal S (x :: r)) : ∀ y, y ∈ r → vB y + vH y ≤ vB x := by
  induction r generalizing x with
  | nil => intro y hy; cases hy
  | cons z r ih =>
    intro y hy
    obtain ⟨⟨_, _, _, _, _, h6, _⟩, h2⟩ := h
    rcases List.mem_cons.mp hy with e | hy
    · rw [e]; omega
    · have := ih h2 y hy
      omega
theorem lvOk_K (h : lvOk G ty S C) (hg : ∀ y, y ∈ C → (vF y ≠ 0 → lv S' (vF y)) ∧ (vD y ≠ 0 → lv S' (vD y))) (hk : ∀ o, lv S' o → sA S' 3 o = sA S 3 o) : lvOk G ty S' C := by
  induction C with
  | nil => exact h
  | cons x r ih =>
    obtain ⟨h1, h2, h3, h4, h5⟩ := h
    obtain ⟨g1, g2⟩ := hg x List.mem_cons_self
    refine ⟨h1, fun c => ?_, fun c => ?_, h4, ih h5 (fun y hy => hg y (List.mem_cons_of_mem _ hy))⟩
    · obtain ⟨_, a2, a3, a4⟩ := h2 c
      exact ⟨g1 c, by rw [hk _ (g1 c)]; exact a2, a3, a4⟩
    · obtain ⟨_, a2⟩ := h3 c
      exact ⟨g2 c, by rw [hk _ (g2 c)]; exact a2⟩
theorem rwL_KX (h : rwL S) (hK : KX K S S') : rwL S' := by
  intro k a hk hq
  rw [hK.1.2.2.2.1] at hq
  rw [hK.1.2.2.2.2.1]
  exact h k a hk hq
/-- what the class's machine is behind a step that only took v values off and put one -/
theorem CI_give (h : CI F loc par ty G tq (x :: r) S) (hK : KX K S S') (hv : v ≤ vH x) (hm : mHS 0 (gC (x :: r)) (topC (x :: r) - v + 1) S') (e : ∀ i, i < topC (x :: r) - v → sL S' 47 i = sL S 47 i ∧ sL S' 48 i = sL S 48 i) (e1 : sL S' 47 (topC (x :: r) - v) = hi) (hl : lob (vL x) + v ≤ vH x) (h6 : vH x - v + 1 ≤ 600) (h0 : c_kind hi ≠ 0 ∧ c_kind hi ≠ nI 5) (p q : Nat) : CI F loc par ty G tq (vAt x p q (vH x - v + 1, vU x, vL x) :: r) S' := by
  obtain ⟨a1, a2, a3, a4, a5, a6, a7, a8, a9⟩ := h
  have hlk := lv_KX hK
  have hE : ∀ o, lv S' o → obE S S' o := fun o ho => obE_KX hK (mHS_ok a1 o ho.1 ho.2.1) ((hlk o).mp ho).2
  have hk : ∀ o, lv S' o → sA S' 3 o = sA S 3 o := fun o ho => (hE o ho).1
  have hcl := mHS_cl hm
  have ht : topC (x :: r) = vB x + vH x := rfl
  have eA : ∀ a, a ∉ kxA → sA S' a = sA S a := fun a ha => hK.1.A ha
  have eI : ∀ i, i ∉ kxI → sI S' i = sI S i := fun i hi => hK.1.I hi
  have hsv : stLv (topC (x :: r) - v) S' := fun i hi => hm.2.2.2.2.1 i (by omega)
  obtain ⟨m1, m2, m3⟩ := a3
  obtain ⟨l1, l2, l3, l4, l5⟩ := m2
  refine ⟨?_, rwL_KX a2 hK, ?_, fun k hk' => ?_, ?_, ?_, ?_, ?_, fun q hq => ?_⟩
  · have e2 : topC (vAt x p q (vH x - v + 1, vU x, vL x) :: r) = topC (x :: r) - v + 1 := by
      show vB x + (vH x - v + 1) = vB x + vH x - v + 1
      omega
    rw [e2]
    exact hm
  · refine ⟨?_, ⟨l1, l2, by show lob (vL x) ≤ vH x - v + 1; omega, h6, l5⟩, stkC_K (n := topC (x :: r) - v) m3 (fun y hy => by have := cCal_lo a5 y hy; omega) e hsv hk⟩
    have hlow := mkOk_K (S' := S') (h := vH x - v) (n := topC (x :: r) - v) (l := vL x) (b := vB x) ⟨fun i hi => m1.1 i (by omega), m1.2⟩ (by omega) (by omega) l2 e hsv hk
    refine ⟨fun i hi => ?_, hlow.2⟩
    have hi' : i < vH x - v + 1 := hi
    by_cases c : i < vH x - v
    · exact hlow.1 i c
    · have e3 : vB x + i = topC (x :: r) - v := by omega
      show c_kind (sL S' 47 (vB x + i)) ≠ 0 ∧ (c_kind (sL S' 47 (vB x + i)) = nI 5 → _)
      rw [e3, e1]
      exact ⟨h0.1, fun c => absurd c h0.2⟩
  · obtain ⟨b1, b2⟩ := a4 k ((hlk k).mp hk').1
    refine ⟨tyO_K b1 (hE k hk') (fun o ho => ⟨fun hm => ?_, hk o⟩), vlO_K b2 (hE k hk')⟩
    rw [← obE_tgs (hE k hk')] at hm
    exact (hcl k hk'.1 hk'.2.1 hk'.2.2 o hm).resolve_left (by have := ho.1; omega)
  · cases r with
    | nil => exact a5
    | cons y r => exact cCal_E (S := S) (C := vAt x p q (vH x - v + 1, vU x, vL x) :: y :: r) a5 (fun a ha => eA a (fun c => by revert ha c; revert a; decide))
  · have h6' : lvOk G ty S (vAt x p q (vH x - v + 1, vU x, vL x) :: r) := a6
    exact lvOk_K h6' (fun y hy => by
      obtain ⟨c1, c2⟩ := gC_pos hy
      exact ⟨fun c => hm.2.2.2.2.2.2.1 _ (c1 c), fun c => hm.2.2.2.2.2.2.1 _ (c2 c)⟩) hk
  · obtain ⟨b1, b2, b3, b4⟩ := a7
    exact ⟨by rw [eI 5213 (by decide)]; exact b1, by rw [eI 5214 (by decide)]; exact b2, by rw [eI 5215 (by decide)]; exact b3, b4⟩
  · exact triC_E (C := vAt x p q (vH x - v + 1, vU x, vL x) :: r) a8 (eA 60 (by decide))
  · rw [hK.1.2.1 21 (by decide)]
    exact a9 q hq
end
