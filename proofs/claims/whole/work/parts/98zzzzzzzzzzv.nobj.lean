/-! BOTH MACHINES: a new object -/
/-- X is S with a new object k, which nothing holds yet -/
def nbX (k : Nat) (g : Nat → Nat) (t : Nat) (S X : cS) : Prop := mHS k g t X ∧ rwL X ∧ CFm S X ∧ ¬ lv S k ∧ (∀ q, lv X q ↔ lv S q ∨ q = k) ∧ (∀ j, lv S j → obE S X j) ∧ (∀ a, a < 108 → sL X a = sL S a) ∧ 1 ≤ k ∧ k ≤ 1500
/-- the class between two steps, but that nothing holds object k yet -/
def CIk (k : Nat) (F : Nat → Nat → Nat → Prop) (loc par : Nat → Nat → Nat) (ty : Nat → Nat × Nat) (G : Nat → Nat → Nat → Nat × Nat × LL → Prop) (tq : Nat → Nat × Nat) (C : List Lv) (S : cS) : Prop :=
  mHS k (gC C) (topC C) S ∧ rwL S ∧ stkC S C ∧ (∀ k, lv S k → tyO F loc par ty S k ∧ vlO S k) ∧ cCal S C ∧ lvOk G ty S C ∧ cRg S C ∧ triC G tq S C ∧ (∀ q, q < 4096 → c_kind (sL S 21 q) ≠ nI 5)
/-- l2 is what is left of the label when v values are gone -/
def labS (v : Nat) (x : Lv) (l2 : LL) : Prop := l2 = vL x ∨ ∃ i l' s, vL x = ((i, 1) :: l', s) ∧ vH x - v ≤ i ∧ l2 = (l', s)
section
variable {P : Nat → Prop} {T : cS} {gT : Nat} {Q : Nat → Prop} {β β' : Nat → Nat} {F : Nat → Nat → Nat → Prop} {loc par : Nat → Nat → Nat} {ty : Nat → Nat × Nat} {G : Nat → Nat → Nat → Nat × Nat × LL → Prop} {D K : List Nat} {z nn g0 g1 g3 g4 g5 gn d v o i k k0 n t kd w : Nat} {tq : Nat → Nat × Nat} {C r : List Lv} {x : Lv} {S S' X W Sr : cS} {g : Nat → Nat} {l2 : LL} {hi lo kh kl : Int64}
theorem labS_f (h : labS v x l2) (hb : lbo (vS x)) : (∀ j, j < vH x - v → (j, 1) ∈ (vL x).1 → (j, 1) ∈ l2.1) ∧ (∀ y, y ∈ l2.1 → y ∈ (vL x).1) ∧ vU x = tms l2.1 ∧ srt l2.1 ∧ l2.2 = (vL x).2 ∧ ∀ e y l', l2.1 = e ++ (y, 0) :: l' → ∃ e', (vL x).1 = e' ++ (y, 0) :: l' := by
  obtain ⟨b1, b2, _⟩ := hb
  have b1' : vU x = tms (vL x).1 := b1
  have b2' : srt (vL x).1 := b2
  rcases h with h | ⟨i, l', s, h1, h2, h3⟩
  · subst h
    exact ⟨fun j _ h => h, fun y h => h, b1', b2', rfl, fun e y l' h => ⟨e, h⟩⟩
  · subst h3
    rw [h1] at b1' b2' ⊢
    refine ⟨fun j hj hm => ?_, fun y hy => List.mem_cons_of_mem _ hy, ?_, b2'.2, rfl, fun e y l'' hl => ⟨(i, 1) :: e, by show (i, 1) :: l' = _; rw [show l' = e ++ (y, 0) :: l'' from hl]; rfl⟩⟩
    · rcases List.mem_cons.mp hm with c | c
      · injection c with c _
        omega
      · exact c
    · have e2 : tms ((i, 1) :: l') = (if (i, 1).2 = 0 then 1 else 0) + tms l' := rfl
      rw [e2, if_neg (show ¬ (1 : Nat) = 0 by omega), Nat.zero_add] at b1'
      exact b1'
theorem nb_create (h : mHS 0 g t S) (hR : rwL S) (h1 : 1 ≤ kd) (h7 : kd ≤ 7) : (nLive S = 1500 ∧ Ans (d + 2) 178 [.ref 2, .int (nI kd)] S (some (.int (nI 0))) S) ∨ (nLive S < 1500 ∧ ∃ k X, Ans (d + 2) 178 [.ref 2, .int (nI kd)] S (some (.int (nI k))) X ∧ nbX k g t S X ∧ sA X 3 k = nI kd ∧ sA X 7 k = nI 0 ∧ sA X 8 k = nI 0 ∧ sA X 9 k = nI 0 ∧ sA X 10 k = nI 0) := by
  rcases mcreate_T (d := d) h h1 h7 with ⟨a, b⟩ | ⟨a, k, X, k1, k2, k3, b1, b2, b3, b7, b8, b9, b10, b11, b12, _⟩
  · exact Or.inl ⟨a, b⟩
  · have hnk : ¬ lv S k := fun c => c.2.2 k3
    refine Or.inr ⟨a, k, X, b1, ⟨b2, rwL_FrL b12 hR, CFm_FrL b12 (by decide) (by decide) (by decide), hnk, fun q => ?_, fun j hj => b11 j (fun c => hnk (c ▸ hj)), fun a ha => b12.2.1 a (fun c => by cases c), k1, k2⟩, b3, b7, b8, b9, b10⟩
    by_cases c : q = k
    · subst c
      exact ⟨fun _ => Or.inr rfl, fun _ => ⟨k1, k2, by rw [b3]; exact (nI_ne (b := 0) (by omega) (by omega) (by omega) : nI kd ≠ nI 0)⟩⟩
    · have := (b11 q c).1
      constructor
      · intro h; left; exact ⟨h.1, h.2.1, by rw [← this]; exact h.2.2⟩
      · intro h
        rcases h with h | h
        · exact ⟨h.1, h.2.1, by rw [this]; exact h.2.2⟩
        · exact absurd h c
theorem nbX_lk (h : nbX k g t S X) : lv X k := (h.2.2.2.2.1 k).mpr (Or.inr rfl)
theorem nbX_lv (h : nbX k g t S X) (ho : o = 0 ∨ lv S o) : o = 0 ∨ lv X o := ho.imp id (fun c => (h.2.2.2.2.1 o).mpr (Or.inl c))
/-- k alone has changed further -/
theorem nbX_ch (h : nbX k g t S X) (hm : mHS k g t W) (hR : rwL W) (hF : CFm X W) (hE : ∀ j, 1 ≤ j → j ≤ 1500 → j ≠ k → obE X W j) (h3 : sA W 3 k = sA X 3 k) (hL : ∀ a, a < 108 → sL W a = sL X a) : nbX k g t S W := by
  obtain ⟨a1, a2, a3, a4, a5, a6, a7, a8, a9⟩ := h
  have hlv : ∀ q, lv W q ↔ lv X q := fun q => by
    constructor
    · intro hq
      refine ⟨hq.1, hq.2.1, ?_⟩
      by_cases c : q = k
      · subst c; rw [← h3]; exact hq.2.2
      · rw [← (hE q hq.1 hq.2.1 c).1]; exact hq.2.2
    · intro hq
      refine ⟨hq.1, hq.2.1, ?_⟩
      by_cases c : q = k
      · subst c; rw [h3]; exact hq.2.2
      · rw [(hE q hq.1 hq.2.1 c).1]; exact hq.2.2
  exact ⟨hm, hR, a3.trans hF, a4, fun q => (hlv q).trans (a5 q), fun j hj => (a6 j hj).trans (hE j hj.1 hj.2.1 (fun c => a4 (c ▸ hj))), fun a ha => (hL a ha).trans (a7 a ha), a8, a9⟩
theorem nb_link {i : Int32} {y u : Nat} (h : nbX k g t S X) (h7 : sA X 7 k = nI 0) (h8 : sA X 8 k = nI 0) (hy : y = 0 ∨ lv S y) (hu : u = 0 ∨ lv S u) : ∃ W, Ans (d + 2) 179 [.ref 2, .int (nI k), .int i, .int (nI y), .int (nI u)] X none W ∧ nbX k g t S W ∧ sA W 3 k = sA X 3 k ∧ sA W 7 k = nI y ∧ sA W 8 k = nI u ∧ sA W 9 k = i ∧ sA W 10 k = sA X 10 k := by
  obtain ⟨W, b1, b2, b7, b8, b9, b10, b11, b12, bL, bQ, bE, bF, _⟩ := mlink_T (d := d) (i := i) h.1 (nbX_lk h) h7 h8 (nbX_lv h hy) (nbX_lv h hu)
  refine ⟨W, b1, nbX_ch h b2 (rwL_FrL bF h.2.1) (CFm_FrL bF (by decide) (by decide) (by decide)) (fun j _ _ hj => bE j hj) (congrFun (bF.A (by decide) : sA W 3 = sA X 3) k) (fun a _ => by rw [bL]), congrFun (bF.A (by decide) : sA W 3 = sA X 3) k, b7, b8, b9, b10⟩
/-- an entry behind those of a new object -/
theorem nb_app {z : Nat} (h : nbX k g t S X) (hkd : sA X 3 k = nI kd) (h7 : kd ≤ 7) (hw : c_width kd = w) (hw2 : w = 2 ∨ w = 4) (hz : sA X 10 k = nI z) (hz2 : z ≤ c_most kd) (ho : c_obj hi lo = nI o) (hol : o = 0 ∨ lv S o) : (z = c_most kd ∧ Ans (d + 4) 183 [.ref 2, .int (nI k), .long kh, .long kl, .long hi, .long lo] X (some (.int (nI 0))) X) ∨ (z < c_most kd ∧ ∃ W, Ans (d + 4) 183 [.ref 2, .int (nI k), .long kh, .long kl, .long hi, .long lo] X (some (.int 1)) W ∧ nbX k g t S W ∧ sA W 3 k = nI kd ∧ sA W 7 k = sA X 7 k ∧ sA W 8 k = sA X 8 k ∧ sA W 9 k = sA X 9 k ∧ sA W 10 k = nI (z + 1) ∧ (∀ i, i < w * z → sL W (h_row W k) i = sL X (h_row X k) i) ∧ sL W (h_row W k) (h_at w z) = hi ∧ sL W (h_row W k) (h_at w z + 1) = lo ∧ (w = 4 → sL W (h_row W k) (4 * z) = kh ∧ sL W (h_row W k) (4 * z + 1) = kl)) := by
  rcases mappend_T (d := d) (kh := kh) (kl := kl) h.1 h.2.1 (nbX_lk h) hkd h7 hw hw2 hz hz2 ho (nbX_lv h hol) with ⟨a, b⟩ | ⟨a, W, b1, b2, b3, b4, b5, _, b7, b8, b9, b10, b11, b12⟩
  · exact Or.inl ⟨a, b⟩
  · exact Or.inr ⟨a, W, b1, nbX_ch h b2 b3 b4 b5 (by rw [b7.2.1 3 (by decide) (by decide)]) b7.2.2, by rw [b7.2.1 3 (by decide) (by decide)]; exact hkd, by rw [b7.2.1 7 (by decide) (by decide)], by rw [b7.2.1 8 (by decide) (by decide)], by rw [b7.2.1 9 (by decide) (by decide)], b8, b9, b10, b11, b12⟩
theorem mkOk_N {b h n : Nat} {l : LL} (hm : mkOk S b h l) (hb : b + h ≤ n) (hl : lob l ≤ h) (hs : srt l.1) (e : ∀ i, i < n → sL S' 47 i = sL S 47 i ∧ sL S' 48 i = sL S 48 i) (hv : stLv n S') (hk : ∀ o, lv S o → lv S' o → sA S' 3 o = sA S 3 o) : mkOk S' b h l := by
  have low : ∀ (l : List (Nat × Nat)) (s : Nat), srt l → ∀ y w, (y, w) ∈ l → y + w ≤ lob (l, s) := by
    intro l s
    induction l with
    | nil => intro _ y w h; cases h
    | cons z l ih =>
      intro hs y w hy
      have e : lob (z :: l, s) = z.1 + z.2 := rfl
      rcases List.mem_cons.mp hy with c | c
      · rw [e, ← c]; exact Nat.le_refl _
      · have := ih hs.2 y w c
        have h1 := hs.1
        have e2 : lob (l, s) = lob (l, 0) := rfl
        omega
  refine ⟨fun i hi => ?_, fun y hy => ?_⟩
  · rw [(e (b + i) (by omega)).1]
    exact hm.1 i hi
  · have hy2 := low l.1 l.2 hs y 2 hy
    have hy3 : y + 2 ≤ lob l := hy2
    obtain ⟨⟨o, o1, o2, o3, o4⟩, i, i1, i2, i3⟩ := hm.2 y hy
    obtain ⟨c1, c2⟩ := e (b + y) (by omega)
    obtain ⟨c3, c4⟩ := e (b + (y + 1)) (by omega)
    obtain ⟨o', p1, p2, p3⟩ := hv (b + y) (by omega)
    have : o' = o := by
      rw [c1, c2, o3, o4, (ob_obj o1.2.1).1] at p2
      have := congrArg gN p2
      rw [gN_nI (by have := o1.2.1; omega), gN_nI (by omega)] at this
      exact this.symm
    subst this
    have hl' := p3.resolve_left (by have := o1.1; omega)
    exact ⟨⟨o', hl', by rw [hk o' o1 hl']; exact o2, by rw [c1]; exact o3, by rw [c2]; exact o4⟩, i, i1, by rw [c3]; exact i2, by rw [c4]; exact i3⟩
theorem stkC_N {n : Nat} (h : stkC S C) (hn : ∀ y, y ∈ C → vB y + vH y ≤ n) (e : ∀ i, i < n → sL S' 47 i = sL S 47 i ∧ sL S' 48 i = sL S 48 i) (hv : stLv n S') (hk : ∀ o, lv S o → lv S' o → sA S' 3 o = sA S 3 o) : stkC S' C := by
  induction C with
  | nil => exact h
  | cons x r ih =>
    obtain ⟨h1, h2, h3⟩ := h
    exact ⟨mkOk_N h1 (hn x List.mem_cons_self) h2.2.2.1 h2.2.1 e hv hk, h2, ih h3 (fun y hy => hn y (List.mem_cons_of_mem _ hy))⟩
theorem lvOk_N (h : lvOk G ty S C) (hg : ∀ y, y ∈ C → (vF y ≠ 0 → lv S' (vF y)) ∧ (vD y ≠ 0 → lv S' (vD y))) (hk : ∀ o, lv S o → lv S' o → sA S' 3 o = sA S 3 o) : lvOk G ty S' C := by
  induction C with
  | nil => exact h
  | cons x r ih =>
    obtain ⟨h1, h2, h3, h4, h5⟩ := h
    obtain ⟨g1, g2⟩ := hg x List.mem_cons_self
    refine ⟨h1, fun c => ?_, fun c => ?_, h4, ih h5 (fun y hy => hg y (List.mem_cons_of_mem _ hy))⟩
    · obtain ⟨a1, a2, a3, a4⟩ := h2 c
      exact ⟨g1 c, by rw [hk _ a1 (g1 c)]; exact a2, a3, a4⟩
    · obtain ⟨a1, a2⟩ := h3 c
      exact ⟨g2 c, by rw [hk _ a1 (g2 c)]; exact a2⟩
/-- another kind of the new object alone -/
theorem ftO_ty {ty' : Nat → Nat × Nat} {m s a : Nat} (h : ftO ty S m s a) (ht : ∀ j, lv S j → ty' j = ty j) : ftO ty' S m s a := ⟨h.1, fun h0 => by
  obtain ⟨h1, h2, h3⟩ := h.2 h0
  exact ⟨h1, h2, by rw [ht a h1]; exact h3⟩⟩
theorem tyO_ty {ty' : Nat → Nat × Nat} (h : tyO F loc par ty S k) (hk : lv S k) (ht : ∀ j, lv S j → ty' j = ty j) : tyO F loc par ty' S k := by
  obtain ⟨h1, h2, h3, h4, h5, h6⟩ := h
  refine ⟨h1, fun c => ?_, fun c => ?_, h4, h5, fun c => ?_⟩
  · obtain ⟨b1, f, m, j, a, b2, b3, b4, b5⟩ := h2 c
    exact ⟨b1, f, m, j, a, b2, b3, b4, ftO_ty b5 ht⟩
  · obtain ⟨b1, a, b2, b3⟩ := h3 c
    refine ⟨b1, a, b2, b3.imp id (fun b4 => ⟨b4.1, b4.2.1, ?_⟩)⟩
    rw [ht k hk, ht a b4.1]
    exact b4.2.2
  · obtain ⟨b1, a, b2, b3, b4, b5⟩ := h6 c
    rw [ht k hk]
    exact ⟨b1, a, b2, b3, b4, ftO_ty b5 ht⟩
theorem lvOk_ty {ty' : Nat → Nat × Nat} (h : lvOk G ty S C) (ht : ∀ j, lv S j → ty' j = ty j) : lvOk G ty' S C := by
  induction C with
  | nil => exact h
  | cons x r ih =>
    obtain ⟨h1, h2, h3, h4, h5⟩ := h
    refine ⟨h1, fun c => ?_, h3, h4, ih h5⟩
    obtain ⟨b1, b2, b3, b4⟩ := h2 c
    exact ⟨b1, b2, b3, by rw [ht _ b1]; exact b4⟩
/-- the new object is as it must be -/
theorem CIk_of {ty' : Nat → Nat × Nat} (h : CI F loc par ty G tq (x :: r) S) (hN : nbX k (gC (x :: r)) (topC (x :: r)) S X) (hty : ∀ j, j ≠ k → ty' j = ty j) (ho : tyO F loc par ty' X k ∧ vlO X k) : CIk k F loc par ty' G tq (x :: r) X := by
  obtain ⟨a1, a2, a3, a4, a5, a6, a7, a8, a9⟩ := h
  obtain ⟨n1, n2, n3, n4, n5, n6, n7, n8, n9⟩ := hN
  have ht : ∀ j, lv S j → ty' j = ty j := fun j hj => hty j (fun c => n4 (c ▸ hj))
  have eA : ∀ a, a ∉ cfA0 → sA X a = sA S a := n3.2.2.2.1
  have eI : ∀ i, i ∉ cfI0 → sI X i = sI S i := n3.2.2.1
  have hS : ∀ o, lv S o → (lv X o → sA X 3 o = sA S 3 o) := fun o ho _ => (n6 o ho).1
  have hlvS : ∀ {o}, lv S o → lv X o := fun ho => (n5 _).mpr (Or.inl ho)
  refine ⟨n1, n2, ?_, fun j hj => ?_, ?_, ?_, ?_, ?_, fun q hq => ?_⟩
  · refine stkC_N (n := topC (x :: r)) a3 (fun y hy => ?_) (fun i _ => by rw [n7 47 (by omega), n7 48 (by omega)]; exact ⟨rfl, rfl⟩) n1.2.2.2.2.1 hS
    rcases List.mem_cons.mp hy with e | hy
    · rw [e]; exact Nat.le_refl _
    · have := cCal_lo a5 y hy
      show _ ≤ vB x + vH x
      omega
  · rcases (n5 j).mp hj with c | c
    · obtain ⟨b1, b2⟩ := a4 j c
      exact ⟨tyO_K (tyO_ty b1 c ht) (n6 j c) (fun o ho => ⟨fun _ => hlvS ho, fun _ => (n6 o ho).1⟩), vlO_K b2 (n6 j c)⟩
    · rw [c]; exact ho
  · exact cCal_E a5 (fun a ha => eA a (fun c => by revert ha c; revert a; decide))
  · exact lvOk_N (lvOk_ty a6 ht) (fun y hy => by
      obtain ⟨c1, c2⟩ := gC_pos hy
      exact ⟨fun c => n1.2.2.2.2.2.2.1 _ (c1 c), fun c => n1.2.2.2.2.2.2.1 _ (c2 c)⟩) hS
  · obtain ⟨b1, b2, b3, b4⟩ := a7
    exact ⟨by rw [eI 5213 (by decide)]; exact b1, by rw [eI 5214 (by decide)]; exact b2, by rw [eI 5215 (by decide)]; exact b3, b4⟩
  · exact triC_E a8 (eA 60 (by decide))
  · rw [n7 21 (by omega)]
    exact a9 q hq
theorem CIk_lob (h : CIk k0 F loc par ty G tq (x :: r) S) : lob (vL x) ≤ vH x := h.2.2.1.2.1.2.2.1
theorem CIk_len (h : CIk k0 F loc par ty G tq (x :: r) S) : r.length ≤ 30 ∧ topC (x :: r) ≤ 18600 ∧ sI S 4603 = nI (topC (x :: r)) ∧ topC (x :: r) = vB x + vH x ∧ vH x ≤ 600 := by
  have h1 := h.2.2.2.2.2.2.1.2.2.2
  have h2 := cCal_b h.2.2.2.2.1 h.2.2.1
  have h3 : vH x ≤ 600 := h.2.2.1.2.1.2.2.2.1
  refine ⟨h1, ?_, h.1.2.2.1, rfl, h3⟩
  show vB x + vH x ≤ 18600
  omega
/-- the class with the new object given -/
theorem CIk_give (h : CIk k0 F loc par ty G tq (x :: r) S) (hK : KX K S S') (hv : v ≤ vH x) (hm : mHS 0 (gC (x :: r)) (topC (x :: r) - v + 1) S') (e' : ∀ i, i < topC (x :: r) - v → sL S' 47 i = sL S 47 i ∧ sL S' 48 i = sL S 48 i) (e1 : sL S' 47 (topC (x :: r) - v) = hi) (hlab : labS v x l2) (hl : lob l2 + v ≤ vH x) (h6 : vH x - v + 1 ≤ 600) (h0 : c_kind hi ≠ 0 ∧ c_kind hi ≠ nI 5) (p q : Nat) : CI F loc par ty G tq (vAt x p q (vH x - v + 1, vU x, l2) :: r) S' := by
  obtain ⟨a1, a2, a3, a4, a5, a6, a7, a8, a9⟩ := h
  have hlk := lv_KX hK
  have hE : ∀ o, lv S' o → obE S S' o := fun o ho => obE_KX hK (mHS_ok a1 o ho.1 ho.2.1) ((hlk o).mp ho).2
  have hk : ∀ o, lv S' o → sA S' 3 o = sA S 3 o := fun o ho => (hE o ho).1
  have hcl := mHS_cl hm
  have ht : topC (x :: r) = vB x + vH x := rfl
  have eA : ∀ a, a ∉ kxA → sA S' a = sA S a := fun a ha => hK.1.A ha
  have eI : ∀ i, i ∉ kxI → sI S' i = sI S i := fun i hi => hK.1.I hi
  have hsv : stLv (topC (x :: r) - v) S' := fun i hi => hm.2.2.2.2.1 i (by omega)
  obtain ⟨m1, m2, m3⟩ := a3
  obtain ⟨f1, f2, f3, f4, f5, f6⟩ := labS_f hlab m2
  obtain ⟨l1, l2', l3, l4, l5⟩ := m2
  refine ⟨?_, rwL_KX a2 hK, ?_, fun j hj => ?_, ?_, ?_, ?_, ?_, fun q hq => ?_⟩
  · have e2 : topC (vAt x p q (vH x - v + 1, vU x, l2) :: r) = topC (x :: r) - v + 1 := by
      show vB x + (vH x - v + 1) = vB x + vH x - v + 1
      omega
    rw [e2]
    exact hm
  · refine ⟨?_, ⟨f3, f4, by show lob l2 ≤ vH x - v + 1; omega, h6, l5⟩, stkC_K (n := topC (x :: r) - v) m3 (fun y hy => by have := cCal_lo a5 y hy; omega) e' hsv hk⟩
    have hlow := mkOk_K (S' := S') (h := vH x - v) (n := topC (x :: r) - v) (l := l2) (b := vB x) ⟨fun j hj => ⟨(m1.1 j (by omega)).1, fun c => f1 j hj ((m1.1 j (by omega)).2 c)⟩, fun y hy => m1.2 y (f2 _ hy)⟩ (by omega) (by omega) f4 e' hsv hk
    refine ⟨fun i hi => ?_, hlow.2⟩
    have hi' : i < vH x - v + 1 := hi
    by_cases c : i < vH x - v
    · exact hlow.1 i c
    · have e3 : vB x + i = topC (x :: r) - v := by omega
      show c_kind (sL S' 47 (vB x + i)) ≠ 0 ∧ (c_kind (sL S' 47 (vB x + i)) = nI 5 → _)
      rw [e3, e1]
      exact ⟨h0.1, fun c => absurd c h0.2⟩
  · obtain ⟨b1, b2⟩ := a4 j ((hlk j).mp hj).1
    refine ⟨tyO_K b1 (hE j hj) (fun o ho => ⟨fun hm => ?_, hk o⟩), vlO_K b2 (hE j hj)⟩
    rw [← obE_tgs (hE j hj)] at hm
    exact (hcl j hj.1 hj.2.1 hj.2.2 o hm).resolve_left (by have := ho.1; omega)
  · cases r with
    | nil => exact a5
    | cons y r => exact cCal_E (S := S) (C := vAt x p q (vH x - v + 1, vU x, l2) :: y :: r) a5 (fun a ha => eA a (fun c => by revert ha c; revert a; decide))
  · have h6' : lvOk G ty S (vAt x p q (vH x - v + 1, vU x, l2) :: r) := by
      obtain ⟨c1, c2, c3⟩ := a6
      rw [← f5] at c1 c2
      exact ⟨c1, c2, c3⟩
    exact lvOk_K h6' (fun y hy => by
      obtain ⟨c1, c2⟩ := gC_pos hy
      exact ⟨fun c => hm.2.2.2.2.2.2.1 _ (c1 c), fun c => hm.2.2.2.2.2.2.1 _ (c2 c)⟩) hk
  · obtain ⟨b1, b2, b3, b4⟩ := a7
    exact ⟨by rw [eI 5213 (by decide)]; exact b1, by rw [eI 5214 (by decide)]; exact b2, by rw [eI 5215 (by decide)]; exact b3, b4⟩
  · have h8 : triC G tq S (vAt x p q (vH x - v + 1, vU x, l2) :: r) := by
      obtain ⟨c1, c2⟩ := a8
      refine ⟨fun e' y l'' hl'' => ?_, c2⟩
      have hl3 : l2.1 = e' ++ (y, 0) :: l'' := hl''
      obtain ⟨e2, hl4⟩ := f6 e' y l'' hl3
      have := c1 e2 y l'' hl4
      rw [← f5] at this
      exact this
    exact triC_E h8 (eA 60 (by decide))
  · rw [hK.1.2.1 21 (by decide)]
    exact a9 q hq
theorem CIk_mut (h : CIk k0 F loc par ty G tq (x :: r) S) (hM : mtX k D S X S') (hm : mHS k0 (gC (x :: r)) (topC (x :: r) - v) S') (hR : rwL S') (h7 : sA S 3 k = nI 7 → sA X 10 k = sA S 10 k) (hvl : lv S k → vlO X k) (e : ∀ i, i < topC (x :: r) - v → sL S' 47 i = sL S 47 i ∧ sL S' 48 i = sL S 48 i) (hl : lob (vL x) + v ≤ vH x) (p q : Nat) : CIk k0 F loc par ty G tq (vAt x p q (vH x - v, vU x, vL x) :: r) S' := by
  obtain ⟨a1, a2, a3, a4, a5, a6, a7, a8, a9⟩ := h
  obtain ⟨hK, hCF, hE, hclX, hokX, hlX, hLX, x3, x7, x8, x9⟩ := hM
  have hlk : ∀ q, lv S' q → lv X q ∧ lv S q := fun q hq => by
    have := ((lv_KX hK q).mp hq).1
    exact ⟨this, (hlX q).mp this⟩
  have hEK : ∀ o, lv S' o → obE X S' o := fun o ho => obE_KX hK (hokX o ho.1 ho.2.1) ((lv_KX hK o).mp ho).2
  have k3 : ∀ o, lv S' o → sA S' 3 o = sA S 3 o := fun o ho => by rw [(hEK o ho).1, x3]
  have hcl := mHS_cl hm
  have ht : topC (x :: r) = vB x + vH x := rfl
  have eA : ∀ a, a ∉ cfA0 → sA S' a = sA S a := fun a ha => hCF.2.2.2.1 a ha
  have eI : ∀ i, i ∉ cfI0 → sI S' i = sI S i := fun i hi => hCF.2.2.1 i hi
  have hsv : stLv (topC (x :: r) - v) S' := fun i hi => hm.2.2.2.2.1 i hi
  obtain ⟨m1, m2, m3⟩ := a3
  obtain ⟨l1, l2, l3, l4, l5⟩ := m2
  refine ⟨?_, hR, ?_, fun j hj => ?_, ?_, ?_, ?_, ?_, fun q hq => ?_⟩
  · have e2 : topC (vAt x p q (vH x - v, vU x, vL x) :: r) = topC (x :: r) - v := by
      show vB x + (vH x - v) = vB x + vH x - v
      omega
    rw [e2]
    exact hm
  · refine ⟨?_, ⟨l1, l2, by show lob (vL x) ≤ vH x - v; omega, by have l4' : vH x ≤ 600 := l4; show vH x - v ≤ 600; omega, l5⟩, stkC_K (n := topC (x :: r) - v) m3 (fun y hy => by have := cCal_lo a5 y hy; omega) e hsv k3⟩
    exact mkOk_K (S' := S') (h := vH x - v) (n := topC (x :: r) - v) (l := vL x) (b := vB x) ⟨fun i hi => m1.1 i (by omega), m1.2⟩ (by omega) (by omega) l2 e hsv k3
  · obtain ⟨jX, jS⟩ := hlk j hj
    obtain ⟨b1, b2⟩ := a4 j jS
    have toX : ∀ o, lv S o → (o ∈ tgs S j → lv X o) ∧ (lv X o → sA X 3 o = sA S 3 o) := fun o ho => ⟨fun _ => (hlX o).mpr ho, fun _ => by rw [x3]⟩
    have hX : tyO F loc par ty X j ∧ vlO X j := by
      by_cases c : j = k
      · subst c
        exact ⟨tyO_L b1 (by rw [x3]) (by rw [x7]) (by rw [x8]) (by rw [x9]) h7 toX, hvl jS⟩
      · have := hE j jX.1 jX.2.1 c
        exact ⟨tyO_K b1 this toX, vlO_K b2 this⟩
    refine ⟨tyO_K hX.1 (hEK j hj) (fun o ho => ⟨fun hm => ?_, fun hl' => (hEK o hl').1⟩), vlO_K hX.2 (hEK j hj)⟩
    rw [← obE_tgs (hEK j hj)] at hm
    exact (hcl j hj.1 hj.2.1 hj.2.2 o hm).resolve_left (by have := ho.1; omega)
  · cases r with
    | nil => exact a5
    | cons y r => exact cCal_E (S := S) (C := vAt x p q (vH x - v, vU x, vL x) :: y :: r) a5 (fun a ha => eA a (fun c => by revert ha c; revert a; decide))
  · have h6' : lvOk G ty S (vAt x p q (vH x - v, vU x, vL x) :: r) := a6
    exact lvOk_K h6' (fun y hy => by
      obtain ⟨c1, c2⟩ := gC_pos hy
      exact ⟨fun c => hm.2.2.2.2.2.2.1 _ (c1 c), fun c => hm.2.2.2.2.2.2.1 _ (c2 c)⟩) k3
  · obtain ⟨b1, b2, b3, b4⟩ := a7
    exact ⟨by rw [eI 5213 (by decide)]; exact b1, by rw [eI 5214 (by decide)]; exact b2, by rw [eI 5215 (by decide)]; exact b3, b4⟩
  · exact triC_E (C := vAt x p q (vH x - v, vU x, vL x) :: r) a8 (eA 60 (by decide))
  · rw [hK.1.2.1 21 (by decide), hLX 21 (by decide)]
    exact a9 q hq
theorem appk_W (h : CIk k0 F loc par ty G tq (x :: r) S) (hk : lv S k) (hw : c_width (h_kd S k) = 2 ∨ c_width (h_kd S k) = 4) (hk7 : h_kd S k ≠ 7) (ho : c_obj hi lo = nI o) (hol : o = 0 ∨ lv S o) (h0 : c_kind hi ≠ 0 ∧ c_kind hi ≠ nI 5) (hkk : h_kd S k = 2 → c_kind kh = nI 2 ∨ c_kind kh = nI 3) : (h_n S k = c_most (h_kd S k) ∧ Ans (d + 4) 183 [.ref 2, .int (nI k), .long kh, .long kl, .long hi, .long lo] S (some (.int (nI 0))) S) ∨ (h_n S k < c_most (h_kd S k) ∧ ∃ W, Ans (d + 4) 183 [.ref 2, .int (nI k), .long kh, .long kl, .long hi, .long lo] S (some (.int (nI 1))) W ∧ mtX k [] S W W ∧ CIk k0 F loc par ty G tq (x :: r) W ∧ (∀ i, sL W 47 i = sL S 47 i ∧ sL W 48 i = sL S 48 i) ∧ h_n W k = h_n S k + 1 ∧ h_kd W k = h_kd S k ∧ (∀ i, i < h_n S k → h_hi W k i = h_hi S k i ∧ h_lo W k i = h_lo S k i) ∧ h_hi W k (h_n S k) = hi ∧ h_lo W k (h_n S k) = lo ∧ (c_width (h_kd S k) = 4 → (∀ i, i < h_n S k → h_kh W k i = h_kh S k i ∧ h_kl W k i = h_kl S k i) ∧ h_kh W k (h_n S k) = kh ∧ h_kl W k (h_n S k) = kl)) := by
  obtain ⟨l1, l2, l3, l4, l5⟩ := CIk_len h
  have hok := mHS_ok h.1 k hk.1 hk.2.1
  obtain ⟨kd, z, k7, z3, k3, k10, ekd, ez, hw0⟩ := kdz hok
  rw [ekd] at hw hk7 hkk ⊢
  have hn : h_n S k = z := by
    unfold h_n
    rw [ez, ekd, if_neg (by omega)]
  rw [hn]
  have hzm : z ≤ c_most kd := by
    obtain ⟨kd', z', _, _, _, m2, m3, _, _, _, _, m8, _⟩ := hok
    have ek : kd' = kd := nI_j (by omega) (by omega) (m2.symm.trans k3)
    have := c_most_le kd'
    have ez : z' = z := nI_j (by omega) (by omega) (m3.symm.trans k10)
    rw [← ek, ← ez]
    exact m8
  rcases mappend_T (d := d) (kh := kh) (kl := kl) h.1 h.2.1 hk k3 k7 rfl hw k10 hzm ho hol with ⟨c, A⟩ | ⟨c, W, A1, b1, b2, b3, b4, b5, b6, b7, b8, b9, b10, b11⟩
  · exact Or.inl ⟨c, A⟩
  · refine Or.inr ⟨c, ?_⟩
    have m2 := KX_refl W
    obtain ⟨p1, p2, p3⟩ := b6
    have x3 : sA W 3 = sA S 3 := p2 3 (by decide) (by decide)
    have hM : mtX k [] S W W := ⟨m2, b3, b4, mHS_cl b1, mHS_ok b1, fun q => by unfold lv; rw [x3], p3, x3, p2 7 (by decide) (by decide), p2 8 (by decide) (by decide), p2 9 (by decide) (by decide)⟩
    have eX : h_kd W k = kd := by unfold h_kd; rw [x3, k3, gN_nI (by omega)]
    have hnX : h_n W k = z + 1 := by
      unfold h_n h_z
      rw [eX, b7, if_neg (by omega), gN_nI (by omega)]
    have ev : ∀ i, i < z → h_hi W k i = h_hi S k i ∧ h_lo W k i = h_lo S k i := fun i hi' => by
      unfold h_hi h_lo
      rw [eX, ekd]
      unfold h_at
      rcases hw with cw | cw
      · rw [cw] at b8 ⊢
        exact ⟨b8 _ (by omega), b8 _ (by omega)⟩
      · rw [cw] at b8 ⊢
        exact ⟨b8 _ (by omega), b8 _ (by omega)⟩
    have ev2 : h_hi W k z = hi ∧ h_lo W k z = lo := by
      unfold h_hi h_lo
      rw [eX]
      exact ⟨b9, b10⟩
    have ekk : c_width kd = 4 → (∀ i, i < z → h_kh W k i = h_kh S k i ∧ h_kl W k i = h_kl S k i) ∧ h_kh W k z = kh ∧ h_kl W k z = kl := fun hw4 => by
      unfold h_kh h_kl
      rw [hw4] at b8
      exact ⟨fun i hi' => ⟨b8 _ (by omega), b8 _ (by omega)⟩, b11 hw4⟩
    have hst : ∀ i, sL W 47 i = sL S 47 i ∧ sL W 48 i = sL S 48 i := fun i => by
      rw [p3 47 (by omega), p3 48 (by omega)]
      exact ⟨rfl, rfl⟩
    refine ⟨W, A1, hM, ?_, hst, hnX, eX, ev, ev2.1, ev2.2, ekk⟩
    have h0l := CIk_lob h
    have := CIk_mut (v := 0) h hM (by rw [Nat.sub_zero]; exact b1) b2 (fun c => ?_) (fun _ => ⟨fun i hi' => ?_, fun c2' i hi' => ?_⟩) (fun i _ => hst i) (by omega) (vP x) (vQ x)
    · rw [Nat.sub_zero] at this
      exact this
    · rw [k3] at c
      exact absurd (nI_j (by omega) (by omega) c) (by omega)
    · obtain ⟨y1, y2⟩ := (h.2.2.2.1 k hk).2
      rw [hn] at y1
      rw [hnX] at hi'
      rw [x3]
      by_cases ci : i = z
      · rw [ci, ev2.1]
        exact ⟨h0.2, fun _ => h0.1⟩
      · rw [(ev i (by omega)).1]
        exact y1 i (by omega)
    · obtain ⟨y1, y2⟩ := (h.2.2.2.1 k hk).2
      rw [hn] at y2
      rw [hnX] at hi'
      rw [x3] at c2'
      have e2 : kd = 2 := nI_j (by omega) (by omega) (k3.symm.trans c2')
      obtain ⟨q1, q2, q3⟩ := ekk (by rw [e2]; rfl)
      by_cases ci : i = z
      · rw [ci, q2]
        exact hkk e2
      · rw [(q1 i (by omega)).1]
        exact y2 c2' i (by omega)
end
