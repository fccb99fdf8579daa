/-! OBJECTS OF THE CLASS GO, values leave the stack -/
theorem FrL.trans {L1 L2 L3 : List Nat} {S0 S1 S2 : cS} (h : FrL L1 L2 L3 S0 S1) (g : FrL L1 L2 L3 S1 S2) : FrL L1 L2 L3 S0 S2 :=
  ⟨g.1.trans h.1, fun a ha => (g.2.1 a ha).trans (h.2.1 a ha), g.2.2.1.trans h.2.2.1, g.2.2.2.1.trans h.2.2.2.1, g.2.2.2.2.1.trans h.2.2.2.2.1, g.2.2.2.2.2.1.trans h.2.2.2.2.2.1, fun i hi => (g.I hi).trans (h.I hi), fun a ha => (g.A ha).trans (h.A ha)⟩
theorem FrL.mono {L1 L2 L3 M1 M2 M3 : List Nat} {S0 S : cS} (h : FrL L1 L2 L3 S0 S) (h1 : ∀ i, i ∈ L1 → i ∈ M1) (h2 : ∀ i, i ∈ L2 → i ∈ M2) (h3 : ∀ i, i ∈ L3 → i ∈ M3) : FrL M1 M2 M3 S0 S :=
  ⟨h.1, fun a ha => h.2.1 a (fun c => ha (h3 a c)), h.2.2.1, h.2.2.2.1, h.2.2.2.2.1, h.2.2.2.2.2.1, fun i hi => h.I (fun c => hi (h1 i c)), fun a ha => h.A (fun c => ha (h2 a c))⟩
theorem FrL_Fr {L1 L2 L3 : List Nat} {S0 S : cS} (h : Fr L1 L2 S0 S) : FrL L1 L2 L3 S0 S := ⟨h.1, fun a _ => by rw [h.2.1], h.2.2.1, h.2.2.2.1, h.2.2.2.2.1, h.2.2.2.2.2.1, fun i hi => h.I hi, fun a ha => h.A ha⟩
def kxI : List Nat := [213, 214, 216, 4603]
def kxA : List Nat := [3, 4, 5, 6, 10, 12, 13, 14]
/-- K goes, in this order; the stack may have changed -/
def KX (K : List Nat) (S S' : cS) : Prop := FrL kxI kxA [47, 48] S S' ∧ (∀ k, sA S' 3 k = if k ∈ K then 0 else sA S 3 k) ∧ (∀ k, sA S' 10 k = if k ∈ K then 0 else sA S 10 k) ∧ K.Nodup ∧ (∀ k, k ∈ K → 1 ≤ k ∧ k ≤ 1500 ∧ sA S 3 k ≠ 0) ∧ K.Pairwise (fun x y => x ∉ tgs S y) ∧ (∀ x, x ∈ K → x ∉ tgs S x)
theorem KX_fr {S S' : cS} (h : FrL [4603] [4, 5, 6, 14] [47, 48] S S') : KX [] S S' :=
  ⟨h.mono (by decide) (by decide) (fun _ h => h), fun k => by rw [if_neg List.not_mem_nil, h.A (by decide)], fun k => by rw [if_neg List.not_mem_nil, h.A (by decide)], List.nodup_nil, (fun k hk => by cases hk), List.Pairwise.nil, (fun k hk => by cases hk)⟩
theorem KX_refl (S : cS) : KX [] S S := KX_fr (FrL.refl _ _ _ _)
theorem FrL_row {L1 L2 L3 : List Nat} {S S' : cS} {k : Nat} (hF : FrL L1 L2 L3 S S') (h3 : ∀ a, a ∈ L3 → 1 ≤ a ∧ a < 108) (hok : h_ok S k) : h_row S' k = h_row S k ∧ sL S' (h_row S k) = sL S (h_row S k) := by
  refine ⟨by unfold h_row; rw [hF.2.2.2.1], ?_⟩
  obtain ⟨kd, z, x, y, h7, hkd, hsz, hx, hy, hx1, hy1, hz, hw0, hn0, hrow⟩ := hok
  unfold h_row
  cases hq : sQ S 11 k with
  | none => exact hF.2.1 0 (fun c => by have := h3 0 c; omega)
  | some b =>
    obtain ⟨N, hb, _⟩ := hrow b hq
    exact hF.2.1 b (fun c => by have := h3 b c; omega)
theorem tgs_KX {K : List Nat} {S S' : cS} {k : Nat} (h : KX K S S') (hok : h_ok S k) (hk : k ∉ K) : tgs S' k = tgs S k := by
  obtain ⟨hF, k3, k10, _⟩ := h
  obtain ⟨r1, r2⟩ := FrL_row hF (by decide) hok
  have e3 : sA S' 3 k = sA S 3 k := by rw [k3 k, if_neg hk]
  have e10 : sA S' 10 k = sA S 10 k := by rw [k10 k, if_neg hk]
  have e : h_ent S' k = h_ent S k := by
    funext e
    unfold h_ent h_hi h_lo h_kd
    rw [r1, r2, e3]
  unfold tgs h_n h_z h_kd
  rw [e3, e10, hF.A (a := 7) (by decide), hF.A (a := 8) (by decide), e]
theorem lv_KX {K : List Nat} {S S' : cS} (h : KX K S S') (k : Nat) : lv S' k ↔ lv S k ∧ k ∉ K := by
  unfold lv
  rw [h.2.1 k]
  by_cases hk : k ∈ K
  · rw [if_pos hk]
    exact ⟨fun c => absurd rfl c.2.2, fun c => absurd hk c.2⟩
  · rw [if_neg hk]
    exact ⟨fun c => ⟨c, hk⟩, fun c => c.1⟩
theorem KX_trans {K1 K2 : List Nat} {S S1 S2 : cS} (h1 : KX K1 S S1) (h2 : KX K2 S1 S2) (hcl : h_cl S1) (hok : ∀ k, 1 ≤ k → k ≤ 1500 → h_ok S k) : KX (K1 ++ K2) S S2 := by
  have hl := lv_KX h1
  have ht : ∀ y, y ∈ K2 → tgs S1 y = tgs S y ∧ y ∉ K1 := fun y hy => by
    obtain ⟨y1, y2, y3⟩ := h2.2.2.2.2.1 y hy
    have := ((hl y).mp ⟨y1, y2, y3⟩).2
    exact ⟨tgs_KX h1 (hok y y1 y2) this, this⟩
  obtain ⟨a1, a2, a3, a4, a5, a6, a7⟩ := h1
  obtain ⟨b1, b2, b3, b4, b5, b6, b7⟩ := h2
  refine ⟨a1.trans b1, fun k => ?_, fun k => ?_, ?_, fun k hk => ?_, ?_, fun x hx => ?_⟩
  · rw [b2 k, a2 k]
    by_cases h1 : k ∈ K1
    · rw [if_pos h1, if_pos (List.mem_append_left _ h1)]
      split <;> rfl
    · by_cases h2 : k ∈ K2
      · rw [if_pos h2, if_pos (List.mem_append_right _ h2)]
      · rw [if_neg h1, if_neg h2, if_neg (fun c => (List.mem_append.mp c).elim h1 h2)]
  · rw [b3 k, a3 k]
    by_cases h1 : k ∈ K1
    · rw [if_pos h1, if_pos (List.mem_append_left _ h1)]
      split <;> rfl
    · by_cases h2 : k ∈ K2
      · rw [if_pos h2, if_pos (List.mem_append_right _ h2)]
      · rw [if_neg h1, if_neg h2, if_neg (fun c => (List.mem_append.mp c).elim h1 h2)]
  · rw [List.nodup_append]
    exact ⟨a4, b4, fun x hx y hy e => (ht y hy).2 (e ▸ hx)⟩
  · rcases List.mem_append.mp hk with hk | hk
    · exact a5 k hk
    · obtain ⟨y1, y2, y3⟩ := b5 k hk
      exact ((hl k).mp ⟨y1, y2, y3⟩).1
  · rw [List.pairwise_append]
    refine ⟨a6, List.Pairwise.imp_of_mem (fun {a b} ha hb hab => ?_) b6, fun x hx y hy hm => ?_⟩
    · rw [(ht b hb).1] at hab; exact hab
    · rw [← (ht y hy).1] at hm
      obtain ⟨y1, y2, y3⟩ := b5 y hy
      have hx1 := a5 x hx
      rcases hcl y y1 y2 y3 x hm with c | c
      · omega
      · exact ((hl x).mp c).2 hx
  · rcases List.mem_append.mp hx with hx | hx
    · exact a7 x hx
    · rw [← (ht x hx).1]; exact b7 x hx
/-- a Kill behind changes of holds and of the stack -/
theorem KX_Kill {D : List Nat} {S W S' : cS} (hF : FrL [4603] [4, 5, 6, 14] [47, 48] S W) (hok : ∀ k, 1 ≤ k → k ≤ 1500 → h_ok S k) (h : Kill D W S') : KX D S S' := by
  obtain ⟨a1, a2, a3, a4, a5, a6, a7⟩ := h
  have e3 : sA W 3 = sA S 3 := hF.A (by decide)
  have e10 : sA W 10 = sA S 10 := hF.A (by decide)
  have ht : ∀ y, y ∈ D → tgs W y = tgs S y := fun y hy => by
    obtain ⟨y1, y2, _⟩ := a5 y hy
    exact tgs_FrL hF (by decide) (by decide) (hok y y1 y2)
  refine ⟨(hF.mono (by decide) (by decide) (fun _ h => h)).trans ((FrL_Fr a1).mono (by decide) (by decide) (fun _ h => h)), fun k => by rw [a2 k, e3], fun k => by rw [a3 k, e10], a4, fun k hk => by rw [← e3]; exact a5 k hk, List.Pairwise.imp_of_mem (fun {a b} ha hb hab => ?_) a6, fun x hx => ?_⟩
  · rw [← ht b hb]; exact hab
  · rw [← ht x hx]; exact a7 x hx
theorem Hp_e6 {e4 e5 e6 f6 : Nat → Nat} {S : cS} (h : Hp e4 e5 e6 S) (he : ∀ k, 1 ≤ k → k ≤ 1500 → f6 k = e6 k) : Hp e4 e5 f6 S := by
  obtain ⟨h1, h2, h3, h4, h5, h6⟩ := h
  exact ⟨h1, h2, h3, h4, h5, fun t t1 t2 => by rw [he t t1 t2]; exact h6 t t1 t2⟩
/-- how often an object is on the stack -/
def stE (t : Nat) (S : cS) (k : Nat) : Nat := sumN (fun i => if ob (sL S 47 i) (sL S 48 i) = k then 1 else 0) t
def stLv (t : Nat) (S : cS) : Prop := ∀ i, i < t → ∃ o, o ≤ 1500 ∧ c_obj (sL S 47 i) (sL S 48 i) = nI o ∧ (o = 0 ∨ lv S o)
theorem stE_L {t : Nat} {S S' : cS} (h : ∀ i, i < t → sL S' 47 i = sL S 47 i ∧ sL S' 48 i = sL S 48 i) : stE t S' = stE t S := by
  funext k
  exact sumN_congr (fun i hi => by
    show (if ob (sL S' 47 i) (sL S' 48 i) = k then 1 else 0) = if ob (sL S 47 i) (sL S 48 i) = k then 1 else 0
    rw [(h i hi).1, (h i hi).2])
theorem stE_le (t : Nat) (S : cS) (k : Nat) : stE t S k ≤ t := by
  have := sumN_le (f := fun i => if ob (sL S 47 i) (sL S 48 i) = k then 1 else 0) (c := 1) (n := t) (fun i _ => by
    show (if ob (sL S 47 i) (sL S 48 i) = k then 1 else 0) ≤ 1
    split <;> omega)
  show sumN _ t ≤ t
  omega
theorem stE_s {t : Nat} {S : cS} {o : Nat} (h : ob (sL S 47 t) (sL S 48 t) = o) {k : Nat} (hk : 1 ≤ k) : stE (t + 1) S k = stE t S k + dl o k := by
  show stE t S k + (if ob (sL S 47 t) (sL S 48 t) = k then 1 else 0) = _
  rw [h]
  unfold dl
  by_cases e : o = k
  · rw [if_pos e, if_pos ⟨by omega, e.symm⟩]
  · rw [if_neg e, if_neg (fun c => e c.2.symm)]
theorem stE_pos {t : Nat} {S : cS} {i o : Nat} (hi : i < t) (h : ob (sL S 47 i) (sL S 48 i) = o) : 0 < stE t S o := by
  have := sumN_pos (f := fun i => if ob (sL S 47 i) (sL S 48 i) = o then 1 else 0) (k := i) (n := t) hi
  rw [if_pos h] at this
  exact this
/-- the heap and the stack of t values; g: holds by calls; x: an object that nothing holds yet -/
def mHS (x : Nat) (g : Nat → Nat) (t : Nat) (S : cS) : Prop := Hp no_e (nmE S) (fun k => stE t S k + g k) S ∧ (∀ k, lv S k → k ≠ x → 0 < heldBy S k + nmE S k + (stE t S k + g k)) ∧ sI S 4603 = nI t ∧ t ≤ 20480 ∧ stLv t S ∧ nmLv S ∧ (∀ k, 0 < g k → lv S k) ∧ sI S 1608 = nI (nmB S) ∧ ∀ k, g k ≤ 1000
theorem nmE_F {L1 L2 L3 : List Nat} {S S' : cS} (h : FrL L1 L2 L3 S S') (h3 : 21 ∉ L3 ∧ 22 ∉ L3) : nmE S' = nmE S ∧ nmB S' = nmB S := by
  constructor
  · funext t
    unfold nmE
    rw [h.2.1 21 h3.1, h.2.1 22 h3.2]
  · unfold nmB
    rw [h.2.1 21 h3.1]
section
variable {d t v o x : Nat} {S S' : cS} {g : Nat → Nat} {hi lo : Int64}
/-- the topmost value goes -/
theorem pop_turn (h : mHS 0 g (t + 1) S) (ho : c_obj (sL S 47 t) (sL S 48 t) = nI o) (ho2 : o ≤ 1500) : ∃ S' K, Ans (d + 3) 142 [.ref 2, .ref 6, .int (nI o)] (wI 4603 (nI t) S) none S' ∧ mHS 0 g t S' ∧ KX K S S' ∧ sL S' = sL S ∧ (∀ k, k ∈ K → g k = 0) := by
  obtain ⟨hP, hD, hT, hM, hL, hN, hG, hB, hg⟩ := h
  have hF0 : FrL [4603] [4, 5, 6, 14] [47, 48] S (wI 4603 (nI t) S) := FrL_wI (by decide) (FrL.refl _ _ _ _)
  obtain ⟨o', p1, p2, p3⟩ := hL t (by omega)
  rw [ho] at p2
  have eo : o = o' := by
    have := congrArg gN p2
    rw [gN_nI (by omega), gN_nI (by omega)] at this
    exact this
  subst eo
  have hP1 : Hp no_e (nmE S) (fun k => (stE t S k + g k) + dl o k) S := Hp_e6 hP (fun k k1 _ => by
    rw [stE_s (ob_n ho ho2) k1]
    show _ = stE t S k + dl o k + g k
    omega)
  obtain ⟨hP2, hh⟩ := Hp_reL (f4 := no_e) (f5 := nmE S) (f6 := fun k => (stE t S k + g k) + dl o k) hP1 hF0 (by decide) (by decide) (fun q q1 q2 => hP1.2.2.2.2.2 q q1 q2)
  obtain ⟨S1, K, hA, c1, c2, c3, c4⟩ := release6 (d := d) (k := o) (S := wI 4603 (nI t) S) (e5 := nmE S) (e6 := fun k => stE t S k + g k) ho2 (p3.imp id (fun h => h.2.2)) hP2 (fun q q1 q2 q3 qn => by
    have := hD q ⟨q1, q2, q3⟩ (by omega)
    rw [stE_s (ob_n ho ho2) q1, dl_n qn] at this
    rw [hh q]
    omega)
  have hok : ∀ k, 1 ≤ k → k ≤ 1500 → h_ok S k := hP.1
  have hK := KX_Kill hF0 hok c3
  have eL : sL S1 = sL S := c3.1.2.1
  have eS : stE t S1 = stE t S := stE_L (fun i _ => by rw [eL]; exact ⟨rfl, rfl⟩)
  have eN := nmE_L eL
  have eB := nmB_L eL
  have hlv := lv_KX hK
  refine ⟨S1, K, hA, ⟨by rw [eN, eS]; exact c1, fun k hk _ => ?_, ?_, by omega, ?_, ?_, fun k hk => ?_, ?_, hg⟩, hK, eL, fun k hk => ?_⟩
  · have := c2 k hk.1 hk.2.1 hk.2.2
    rw [eN, eS]
    unfold no_e at this
    omega
  · rw [c3.1.I (by decide)]
    exact rIe _ _ _
  · intro i hi
    obtain ⟨q, q1, q2, q3⟩ := hL i (by omega)
    refine ⟨q, q1, by rw [eL]; exact q2, q3.imp id (fun h => (hlv q).mpr ⟨h, fun hm => ?_⟩)⟩
    have := (c4 q hm).2
    have h2 := stE_pos hi (ob_n q2 q1)
    omega
  · intro i hi
    obtain ⟨q, q1, q2, q3⟩ := hN i hi
    refine ⟨q, q1, by rw [eL]; exact q2, q3.imp id (fun h => (hlv q).mpr ⟨h, fun hm => ?_⟩)⟩
    have := (c4 q hm).1
    have h2 := sumN_pos (f := fun i => if ob (sL S 21 i) (sL S 22 i) = q then 1 else 0) (k := i) (n := 4096) hi
    rw [if_pos (ob_n q2 q1)] at h2
    have h3 : 0 < nmE S q := h2
    omega
  · refine (hlv k).mpr ⟨hG k hk, fun hm => ?_⟩
    have := (c4 k hm).2
    omega
  · rw [eB, c3.1.I (by decide)]
    exact (rIn _ _ (by decide)).trans hB
  · have := (c4 k hk).2
    omega
end
