/-! RELEASE: the heap as it must be, and what goes -/
def nLive (S : cS) : Nat := sumN (fun k => if sA S 3 k = 0 then 0 else 1) 1501
def nKind (S : cS) (kd : Nat) : Nat := sumN (fun k => if sA S 3 k = nI kd then 1 else 0) 1501
def h_sp (S : cS) : Prop := ∃ p f : Nat, sI S 213 = nI (nLive S) ∧ sI S 214 = nI p ∧ sI S 215 = nI f ∧ nLive S + p = f ∧ f ≤ 1500 ∧ (∀ i, i < p → ∃ k, sA S 13 i = nI k ∧ 1 ≤ k ∧ k ≤ f ∧ sA S 3 k = 0) ∧ (∀ i j, i < j → j < p → sA S 13 i ≠ sA S 13 j) ∧ (∀ k, f < k → k ≤ 1500 → sA S 3 k = 0) ∧ sA S 3 0 = 0
def h_cn (S : cS) : Prop := ∀ kd, 1 ≤ kd → kd ≤ 7 → sA S 12 kd = nI (nKind S kd)
def h_cl (S : cS) : Prop := ∀ j, 1 ≤ j → j ≤ 1500 → sA S 3 j ≠ 0 → ∀ t, t ∈ tgs S j → t = 0 ∨ 1 ≤ t ∧ t ≤ 1500 ∧ sA S 3 t ≠ 0
def h_ds (S : cS) : Prop := ∀ j k a, j ≤ 1500 → k ≤ 1500 → sQ S 11 j = some a → sQ S 11 k = some a → j = k
/-- the heap, with so many holds more by e4, and holds by names and by work -/
def Hp (e4 e5 e6 : Nat → Nat) (S : cS) : Prop := (∀ k, 1 ≤ k → k ≤ 1500 → h_ok S k) ∧ h_sp S ∧ h_cn S ∧ h_cl S ∧ h_ds S ∧
  (∀ t, 1 ≤ t → t ≤ 1500 → sA S 4 t = nI (heldBy S t + e4 t) ∧ sA S 5 t = nI (e5 t) ∧ sA S 6 t = nI (e6 t) ∧ e4 t < 2 ^ 20 ∧ e5 t < 2 ^ 20 ∧ e6 t < 2 ^ 20)
/-- all that exists is held -/
def Hd (e4 e5 e6 : Nat → Nat) (S : cS) : Prop := ∀ t, 1 ≤ t → t ≤ 1500 → sA S 3 t ≠ 0 → 0 < heldBy S t + e4 t + e5 t + e6 t
def no_e : Nat → Nat := fun _ => 0
theorem tgs_congr {S S' : cS} {k : Nat} (h3 : sA S' 3 k = sA S 3 k) (h7 : sA S' 7 k = sA S 7 k) (h8 : sA S' 8 k = sA S 8 k) (h10 : sA S' 10 k = sA S 10 k) (hQ : sQ S' 11 k = sQ S 11 k) (hL : sL S' = sL S) : tgs S' k = tgs S k := by
  have e : h_ent S' k = h_ent S k := by
    funext e
    unfold h_ent h_hi h_lo h_row h_kd
    rw [h3, hQ, hL]
  unfold tgs h_n h_z h_kd
  rw [h3, h7, h8, h10, e]
theorem tgs_len {S : cS} {k : Nat} (h : h_ok S k) : (tgs S k).length ≤ 302 := by
  obtain ⟨kd, z, x, y, h7, hkd, hsz, hx, hy, hx1, hy1, hz, hw0, hn0, hrow⟩ := h
  have hz3 : z ≤ 300 := Nat.le_trans hz (c_most_le kd)
  rw [tgs_some (a := 0) h7 hkd hsz hx hy hx1 hy1 hz3 hw0, List.length_cons, List.length_cons, seqN_len]
  omega
theorem heldBy_le {S : cS} (h : ∀ k, 1 ≤ k → k ≤ 1500 → h_ok S k) (h0 : sA S 3 0 = 0) (t : Nat) : heldBy S t < 2 ^ 20 := by
  have := sumN_le (f := fun j => if sA S 3 j = 0 then 0 else (tgs S j).count t) (c := 302) (n := 1501) (fun k hk => by
    show (if sA S 3 k = 0 then 0 else (tgs S k).count t) ≤ 302
    split
    · omega
    · rename_i hne
      exact Nat.le_trans List.count_le_length (tgs_len (h k (by
        rcases Nat.eq_zero_or_pos k with e | e
        · subst e; exact absurd h0 hne
        · exact e) (by omega))))
  show sumN _ 1501 < _
  omega
/-- holds by all but one -/
def heldX (S : cS) (g t : Nat) : Nat := sumN (fun j => if sA S 3 j = 0 ∨ j = g then 0 else (tgs S j).count t) 1501
theorem heldX_add {S : cS} {g t : Nat} (hg : g ≤ 1500) (hl : sA S 3 g ≠ 0) : heldBy S t = heldX S g t + (tgs S g).count t := by
  have := sumN_upd (f := fun j => if sA S 3 j = 0 ∨ j = g then 0 else (tgs S j).count t) (g := fun j => if sA S 3 j = 0 then 0 else (tgs S j).count t) (k := g) (fun i hi => by
    show (if sA S 3 i = 0 then 0 else (tgs S i).count t) = if sA S 3 i = 0 ∨ i = g then 0 else (tgs S i).count t
    by_cases h : sA S 3 i = 0
    · rw [if_pos h, if_pos (Or.inl h)]
    · rw [if_neg h, if_neg (fun c => c.elim h hi)]) (n := 1501) (by omega)
  simp only [if_neg hl, if_pos (Or.inr rfl), or_true, if_true] at this
  show sumN _ 1501 = sumN _ 1501 + _
  omega
theorem held_pos {S : cS} {j t : Nat} (hj : j ≤ 1500) (hl : sA S 3 j ≠ 0) (ht : t ∈ tgs S j) : 0 < heldBy S t := by
  have h1 := sumN_pos (f := fun j => if sA S 3 j = 0 then 0 else (tgs S j).count t) (k := j) (n := 1501) (by omega)
  simp only [if_neg hl] at h1
  have h2 := List.count_pos_iff.mpr ht
  show 0 < sumN _ 1501
  omega
theorem nLive_pos {S : cS} {g : Nat} (hg : g ≤ 1500) (hl : sA S 3 g ≠ 0) : 1 ≤ nLive S := by
  have h1 := sumN_pos (f := fun k => if sA S 3 k = 0 then 0 else 1) (k := g) (n := 1501) (by omega)
  simp only [if_neg hl] at h1
  exact h1
/-- one goes: what that does to the numbers -/
theorem gone_live {S S' : cS} {g : Nat} (hg : g ≤ 1500) (hl : sA S 3 g ≠ 0) (h0 : sA S' 3 g = 0) (hn : ∀ k, k ≠ g → sA S' 3 k = sA S 3 k) : nLive S' + 1 = nLive S := by
  have := sumN_upd (f := fun k => if sA S 3 k = 0 then 0 else 1) (g := fun k => if sA S' 3 k = 0 then 0 else 1) (k := g) (fun i hi => by
    show (if sA S' 3 i = 0 then 0 else 1) = if sA S 3 i = 0 then 0 else 1
    rw [hn i hi]) (n := 1501) (by omega)
  simp only [if_neg hl, if_pos h0] at this
  show sumN _ 1501 + 1 = sumN _ 1501
  omega
theorem gone_kind {S S' : cS} {g kd : Nat} (hg : g ≤ 1500) (hk : sA S 3 g = nI kd) (h1 : 1 ≤ kd) (h7 : kd ≤ 7) (h0 : sA S' 3 g = nI 0) (hn : ∀ k, k ≠ g → sA S' 3 k = sA S 3 k) (q : Nat) (hq : 1 ≤ q) (hq7 : q ≤ 7) : nKind S' q + (if q = kd then 1 else 0) = nKind S q := by
  have := sumN_upd (f := fun k => if sA S 3 k = nI q then 1 else 0) (g := fun k => if sA S' 3 k = nI q then 1 else 0) (k := g) (fun i hi => by
    show (if sA S' 3 i = nI q then 1 else 0) = if sA S 3 i = nI q then 1 else 0
    rw [hn i hi]) (n := 1501) (by omega)
  have e0 : ¬ nI 0 = nI q := fun e => by
    have := congrArg gN e
    rw [gN_nI (by omega), gN_nI (by omega)] at this
    omega
  have e1 : (nI kd = nI q) ↔ q = kd := ⟨fun e => by
    have := congrArg gN e
    rw [gN_nI (by omega), gN_nI (by omega)] at this
    omega, fun e => by rw [e]⟩
  simp only [hk, h0, if_neg e0] at this
  show sumN _ 1501 + _ = sumN _ 1501
  by_cases e : q = kd
  · rw [if_pos e]
    rw [if_pos (e1.mpr e)] at this
    omega
  · rw [if_neg e]
    rw [if_neg (fun h => e (e1.mp h))] at this
    omega
/-- a release under way: S0 ahead of it, D what has gone, ws what waits -/
def RI (S0 : cS) (e5 e6 : Nat → Nat) (D ws : List Nat) (S : cS) : Prop :=
  Fr [213, 214, 216] [3, 4, 10, 12, 13, 14] S0 S ∧ Hp no_e e5 e6 S ∧ c_wait S ws ∧ ws.Nodup ∧ (∀ t, t ∈ ws → 1 ≤ t ∧ t ≤ 1500 ∧ sA S 3 t ≠ 0 ∧ heldBy S t + e5 t + e6 t = 0) ∧ (∀ t, 1 ≤ t → t ≤ 1500 → sA S 3 t ≠ 0 → t ∉ ws → 0 < heldBy S t + e5 t + e6 t) ∧
  (∀ k, sA S 3 k = if k ∈ D then 0 else sA S0 3 k) ∧ (∀ k, sA S 10 k = if k ∈ D then 0 else sA S0 10 k) ∧ D.Nodup ∧ (∀ k, k ∈ D → 1 ≤ k ∧ k ≤ 1500 ∧ sA S0 3 k ≠ 0 ∧ e5 k = 0 ∧ e6 k = 0) ∧ D.Pairwise (fun x y => x ∉ tgs S0 y) ∧ (∀ x, x ∈ D → x ∉ tgs S0 x)
theorem RI_turn {d g : Nat} {S0 S : cS} {e5 e6 : Nat → Nat} {D ws : List Nat} (h : RI S0 e5 e6 D (ws ++ [g]) S) : ∃ S1 S2 ws', Ans (d + 2) 143 [.ref 2, .int (nI g), .int (nI 0)] (wI 216 (nI ws.length) S) none S1 ∧ Ans (d + 2) 146 [.ref 2, .int (nI g)] S1 none S2 ∧ RI S0 e5 e6 (D ++ [g]) ws' S2 ∧ nLive S2 + 1 = nLive S := by
  obtain ⟨hF, ⟨hok, hsp, hcn, hcl, hds, hex⟩, hw, hnd, hws, hpos, h3, h10, hDn, hDl, hDp, hDx⟩ := h
  obtain ⟨hg1, hg2, hg3, hg4⟩ := hws g (List.mem_append_right _ (List.mem_singleton.mpr rfl))
  obtain ⟨p, f, hs213, hs214, hs215, hnp, hf, hspare, hsdis, hfree, hk0⟩ := hsp
  have hng : g ∉ ws := by
    have := (List.nodup_append.mp hnd).2.2
    intro hm
    exact this g hm g (List.mem_singleton.mpr rfl) rfl
  have hgt : ∀ j, j ≤ 1500 → sA S 3 j ≠ 0 → g ∉ tgs S j := fun j hj hl hm => by
    have := held_pos hj hl hm
    omega
  have hB := fun t => heldX_add (S := S) (g := g) (t := t) hg2 hg3
  have hlo : lo_P (wI 216 (nI ws.length) S) g (heldX S g) e5 e6 (tgs (wI 216 (nI ws.length) S) g) (wI 216 (nI ws.length) S) := by
    refine ⟨Fr.refl _ _ _, ?_, ?_, ⟨ws, ⟨rIe _ _ _, ?_⟩, (List.nodup_append.mp hnd).1, ?_, ?_⟩, ?_⟩
    · intro t h1 h2
      have h4 := (hex t h1 h2).1
      have h5 := heldBy_le hok hk0 t
      rw [show no_e t = 0 from rfl, Nat.add_zero] at h4
      rw [hB t] at h4 h5
      exact ⟨h4, Nat.lt_trans h5 (by decide)⟩
    · intro t h1 h2
      obtain ⟨_, h5, h6, _, h5b, h6b⟩ := hex t h1 h2
      exact ⟨h5, h6, Nat.lt_trans h5b (by decide), Nat.lt_trans h6b (by decide)⟩
    · intro i x hx
      exact hw.2 i x (by rw [List.getElem?_append_left (by
        rcases Nat.lt_or_ge i ws.length with h | h
        · exact h
        · rw [List.getElem?_eq_none h] at hx; cases hx)]; exact hx)
    · intro t ht
      obtain ⟨q1, q2, q3, q4⟩ := hws t (List.mem_append_left _ ht)
      exact ⟨q1, q2, q3, fun e => hng (e ▸ ht), by have := hB t; rw [this] at q4; exact q4⟩
    · intro t h1 h2 hl htg htw
      have := hpos t h1 h2 hl (fun hm => (List.mem_append.mp hm).elim htw (fun hm => htg (List.mem_singleton.mp hm)))
      rw [hB t] at this
      exact this
    · intro t ht
      rcases hcl g hg1 hg2 hg3 t ht with h | ⟨h1, h2, h3'⟩
      · exact Or.inl h
      · exact Or.inr ⟨h1, h2, h3', fun e => hgt g hg2 hg3 (e ▸ ht)⟩
  obtain ⟨S1, hV, hF1, h4', _, ⟨ws', hw', hnd', hws', hpos'⟩, _⟩ := visit_lo (d := d) (k := g) (S := wI 216 (nI ws.length) S) hg1 hg2 (hok g hg1 hg2) hlo
  obtain ⟨kd, z, x, y, h7, hkd, hsz, hx, hy, hx1, hy1, hz, hw0, hn0, hrow⟩ := hok g hg1 hg2
  have hkd1 : 1 ≤ kd := by
    rcases Nat.eq_zero_or_pos kd with e | e
    · subst e; exact absurd hkd hg3
    · exact e
  have hlp := nLive_pos hg2 hg3
  have hA1 : ∀ a, a ∉ [4, 14] → sA S1 a = sA S a := fun a ha => (hF1.A ha).trans rfl
  have hI1 : ∀ i, i ∉ [216] → sI S1 i = sI S i := fun i hi => (hF1.I hi).trans (rIn _ _ (fun e => hi (e ▸ List.mem_singleton.mpr rfl)))
  have hR := remove_T (d := d) (k := g) (kd := kd) (n := nLive S) (p := p) (S := S1) hg1 hg2 (by rw [hA1 3 (by decide)]; exact hkd) hkd1 h7 (by rw [hI1 213 (by decide)]; exact hs213) (by rw [hI1 214 (by decide)]; exact hs214) hlp (by omega)
  refine ⟨S1, _, ws', hV, hR, ?_⟩
  generalize hS2 : wI 214 (nI (p + 1)) (wA 13 p (nI g) (wI 213 (nI (nLive S - 1)) (wA 10 g (nI 0) (wA 4 g (nI 0) (wA 3 g (nI 0) (wA 12 kd (sA S1 12 kd - nI 1) S1)))))) = S2
  have a3 : sA S2 3 = upd (sA S 3) g (nI 0) := by
    rw [← hS2]
    simp only [rIA, rA, Nat.reduceEqDiff, reduceIte]
    rw [hA1 3 (by decide)]
  have a10 : sA S2 10 = upd (sA S 10) g (nI 0) := by
    rw [← hS2]
    simp only [rIA, rA, Nat.reduceEqDiff, reduceIte]
    rw [hA1 10 (by decide)]
  have a4 : sA S2 4 = upd (sA S1 4) g (nI 0) := by
    rw [← hS2]
    simp only [rIA, rA, Nat.reduceEqDiff, reduceIte]
  have a12 : sA S2 12 = upd (sA S 12) kd (sA S 12 kd - nI 1) := by
    rw [← hS2]
    simp only [rIA, rA, Nat.reduceEqDiff, reduceIte]
    rw [hA1 12 (by decide)]
  have a13 : sA S2 13 = upd (sA S 13) p (nI g) := by
    rw [← hS2]
    simp only [rIA, rA, Nat.reduceEqDiff, reduceIte]
    rw [hA1 13 (by decide)]
  have a14 : sA S2 14 = sA S1 14 := by
    rw [← hS2]
    simp only [rIA, rA, Nat.reduceEqDiff, reduceIte]
  have i213 : sI S2 213 = nI (nLive S - 1) := by rw [← hS2, rIn _ _ (by decide), rAI, rIe]
  have i214 : sI S2 214 = nI (p + 1) := by rw [← hS2, rIe]
  have hF12 : Fr [213, 214, 216] [3, 4, 10, 12, 13, 14] S S2 := by
    rw [← hS2]
    refine Fr_wI (by decide) (Fr_wA (by decide) (Fr_wI (by decide) (Fr_wA (by decide) (Fr_wA (by decide) (Fr_wA (by decide) (Fr_wA (by decide) ?_))))))
    exact (Fr_wI (by decide) (Fr.refl _ _ S)).trans (hF1.mono (by decide) (by decide))
  have hi215 : sI S2 215 = nI f := by rw [hF12.I (by decide)]; exact hs215
  have i216 : sI S2 216 = sI S1 216 := by rw [← hS2, rIn _ _ (by decide), rAI, rIn _ _ (by decide), rAI, rAI, rAI, rAI]
  have k3 : ∀ k, k ≠ g → sA S2 3 k = sA S 3 k := fun k hk => by rw [a3, upd_at, if_neg hk]
  have k3g : sA S2 3 g = nI 0 := by rw [a3, upd_at, if_pos rfl]
  have k10 : ∀ k, k ≠ g → sA S2 10 k = sA S 10 k := fun k hk => by rw [a10, upd_at, if_neg hk]
  have k10g : sA S2 10 g = nI 0 := by rw [a10, upd_at, if_pos rfl]
  have hlive := gone_live (S := S) (S' := S2) hg2 hg3 k3g k3
  have htg : ∀ k, k ≠ g → tgs S2 k = tgs S k := fun k hk => tgs_congr (k3 k hk) (by rw [hF12.A (by decide)]) (by rw [hF12.A (by decide)]) (k10 k hk) (by rw [hF12.2.2.2.1]) hF12.2.1
  have hheld : ∀ t, heldBy S2 t = heldX S g t := fun t => sumN_congr (fun j _ => by
    show (if sA S2 3 j = 0 then 0 else (tgs S2 j).count t) = if sA S 3 j = 0 ∨ j = g then 0 else (tgs S j).count t
    by_cases hj : j = g
    · subst hj
      rw [if_pos (show sA S2 3 j = 0 from k3g), if_pos (Or.inr rfl)]
    · rw [k3 j hj, htg j hj]
      by_cases hl : sA S 3 j = 0
      · rw [if_pos hl, if_pos (Or.inl hl)]
      · rw [if_neg hl, if_neg (fun c => c.elim hl hj)])
  have hgX : heldX S g g = 0 := by have := hB g; omega
  have hSg : tgs S g = tgs S0 g := tgs_congr (by
      rw [h3 g, if_neg (fun hm => by have := h3 g; rw [if_pos hm] at this; exact hg3 this)]) (by rw [hF.A (by decide)]) (by rw [hF.A (by decide)]) (by
      rw [h10 g, if_neg (fun hm => by have := h3 g; rw [if_pos hm] at this; exact hg3 this)]) (by rw [hF.2.2.2.1]) hF.2.1
  have hgD : g ∉ D := fun hm => by have := h3 g; rw [if_pos hm] at this; exact hg3 this
  refine ⟨⟨hF.trans hF12, ⟨?_, ?_, ?_, ?_, ?_, ?_⟩, ?_, hnd', ?_, ?_, ?_, ?_, ?_, ?_, ?_, ?_⟩, hlive⟩
  · intro k hk1 hk2
    by_cases hk : k = g
    · subst hk
      refine ⟨0, 0, x, y, by omega, k3g, k10g, by rw [hF12.A (by decide)]; exact hx, by rw [hF12.A (by decide)]; exact hy, hx1, hy1, Nat.zero_le _, fun _ => rfl, fun _ => rfl, ?_⟩
      intro a ha
      rw [hF12.2.2.2.1] at ha
      obtain ⟨N, q1, q2, q3, q4, q5⟩ := hrow a ha
      exact ⟨N, q1, by rw [hF12.2.2.2.2.1]; exact q2, by rw [Nat.mul_zero]; exact Nat.zero_le _, q4, fun e he => by omega⟩
    · obtain ⟨kd', z', x', y', b1, b2, b3, b4, b5, b6, b7, b8, b9, b10, b11⟩ := hok k hk1 hk2
      refine ⟨kd', z', x', y', b1, by rw [k3 k hk]; exact b2, by rw [k10 k hk]; exact b3, by rw [hF12.A (by decide)]; exact b4, by rw [hF12.A (by decide)]; exact b5, b6, b7, b8, b9, by rw [hF12.2.2.2.1]; exact b10, ?_⟩
      rw [hF12.2.2.2.1, hF12.2.1, hF12.2.2.2.2.1]
      exact b11
  · refine ⟨p + 1, f, by rw [i213]; exact congrArg nI (by omega), i214, hi215, by omega, hf, ?_, ?_, ?_, by rw [k3 0 (by omega)]; exact hk0⟩
    · intro i hi
      by_cases hip : i = p
      · subst hip
        refine ⟨g, by rw [a13, upd_at, if_pos rfl], hg1, ?_, k3g⟩
        rcases Nat.lt_or_ge f g with h | h
        · exact absurd (hfree g h hg2) hg3
        · exact h
      · obtain ⟨k, q1, q2, q3, q4⟩ := hspare i (by omega)
        refine ⟨k, by rw [a13, upd_at, if_neg hip]; exact q1, q2, q3, ?_⟩
        by_cases hk : k = g
        · rw [hk]; exact k3g
        · rw [k3 k hk]; exact q4
    · intro i j hij hj
      rw [a13, upd_at, upd_at, if_neg (by omega)]
      by_cases hjp : j = p
      · rw [if_pos hjp]
        obtain ⟨k, q1, q2, q3, q4⟩ := hspare i (by omega)
        rw [q1]
        intro e
        have := congrArg gN e
        rw [gN_nI (by omega), gN_nI (by omega)] at this
        exact hg3 (this ▸ q4)
      · rw [if_neg hjp]
        exact hsdis i j hij (by omega)
    · intro k hk1 hk2
      have hkg : k ≠ g := fun e => by
        subst e
        exact hg3 (hfree k hk1 hk2)
      rw [k3 k hkg]
      exact hfree k hk1 hk2
  · intro q hq1 hq7
    have h1 := gone_kind (S := S) (S' := S2) hg2 hkd hkd1 h7 k3g k3 q hq1 hq7
    have h2 := hcn q hq1 hq7
    rw [a12, upd_at]
    by_cases e : q = kd
    · subst e
      rw [if_pos rfl, h2]
      rw [if_pos rfl] at h1
      rw [pk_sub (by omega)]
      exact congrArg nI (by omega)
    · rw [if_neg e, h2]
      rw [if_neg e] at h1
      exact congrArg nI (by omega)
  · intro j hj1 hj2 hl t ht
    have hjg : j ≠ g := fun e => by subst e; exact hl k3g
    rw [htg j hjg] at ht
    rw [k3 j hjg] at hl
    rcases hcl j hj1 hj2 hl t ht with h | ⟨q1, q2, q3⟩
    · exact Or.inl h
    · have htg' : t ≠ g := fun e => hgt j hj2 hl (e ▸ ht)
      exact Or.inr ⟨q1, q2, by rw [k3 t htg']; exact q3⟩
  · intro j k a hj hk ha hb
    rw [hF12.2.2.2.1] at ha hb
    exact hds j k a hj hk ha hb
  · intro t h1 h2
    obtain ⟨_, h5, h6, q4, q5, q6⟩ := hex t h1 h2
    refine ⟨?_, by rw [hF12.A (by decide)]; exact h5, by rw [hF12.A (by decide)]; exact h6, q4, q5, q6⟩
    rw [hheld t, a4, upd_at, show no_e t = 0 from rfl, Nat.add_zero]
    by_cases e : t = g
    · subst e
      rw [if_pos rfl, hgX]
    · rw [if_neg e]
      have := (h4' t h1 h2).1
      rw [List.count_nil, Nat.add_zero] at this
      exact this
  · refine ⟨by rw [i216]; exact hw'.1, fun i x hx => by rw [a14]; exact hw'.2 i x hx⟩
  · intro t ht
    obtain ⟨q1, q2, q3, q4, q5⟩ := hws' t ht
    refine ⟨q1, q2, by rw [k3 t q4]; exact q3, ?_⟩
    rw [hheld t]
    rw [List.count_nil] at q5
    omega
  · intro t h1 h2 hl htw
    have htg' : t ≠ g := fun e => by subst e; exact hl k3g
    rw [k3 t htg'] at hl
    have := hpos' t h1 h2 hl htg' htw
    rw [List.count_nil] at this
    rw [hheld t]
    omega
  · intro k
    by_cases hk : k = g
    · subst hk
      rw [if_pos (List.mem_append_right _ (List.mem_singleton.mpr rfl))]
      exact k3g
    · rw [k3 k hk, h3 k]
      by_cases hm : k ∈ D
      · rw [if_pos hm, if_pos (List.mem_append_left _ hm)]
      · rw [if_neg hm, if_neg (fun c => (List.mem_append.mp c).elim hm (fun c => hk (List.mem_singleton.mp c)))]
  · intro k
    by_cases hk : k = g
    · subst hk
      rw [if_pos (List.mem_append_right _ (List.mem_singleton.mpr rfl))]
      exact k10g
    · rw [k10 k hk, h10 k]
      by_cases hm : k ∈ D
      · rw [if_pos hm, if_pos (List.mem_append_left _ hm)]
      · rw [if_neg hm, if_neg (fun c => (List.mem_append.mp c).elim hm (fun c => hk (List.mem_singleton.mp c)))]
  · rw [List.nodup_append]
    exact ⟨hDn, nd_one g, fun a ha b hb e => hgD (by rw [List.mem_singleton.mp hb] at e; exact e ▸ ha)⟩
  · intro k hk
    rcases List.mem_append.mp hk with hk | hk
    · exact hDl k hk
    · obtain rfl := List.mem_singleton.mp hk
      have := h3 k
      rw [if_neg hgD] at this
      exact ⟨hg1, hg2, by rw [← this]; exact hg3, by omega, by omega⟩
  · rw [List.pairwise_append]
    refine ⟨hDp, List.pairwise_singleton _ _, ?_⟩
    intro a ha b hb
    obtain rfl := List.mem_singleton.mp hb
    rw [← hSg]
    intro hm
    rcases hcl b hg1 hg2 hg3 a hm with h | ⟨_, _, h⟩
    · have := (hDl a ha).1
      omega
    · have := h3 a
      rw [if_pos ha] at this
      exact h this
  · intro k hk
    rcases List.mem_append.mp hk with hk | hk
    · exact hDx k hk
    · obtain rfl := List.mem_singleton.mp hk
      rw [← hSg]
      exact hgt k hg2 hg3
theorem list_last {α : Type} : ∀ (l : List α), l = [] ∨ ∃ m x, l = m ++ [x] := by
  intro l
  rcases List.eq_nil_or_concat l with h | ⟨m, x, h⟩
  · exact Or.inl h
  · exact Or.inr ⟨m, x, by rw [h, List.concat_eq_append]⟩
theorem RI_loop {d k a0 : Nat} {S0 : cS} {e5 e6 : Nat → Nat} : ∀ (n turn : Nat) (x : Int32) (D ws : List Nat) (S : cS), nLive S = n → turn + n ≤ 1500 → RI S0 e5 e6 D ws S → ∃ S' D', Bod (d + 2) 142 59 (sm_p1 (sm_p1 (lv_args 0 [.ref 2, .ref a0, .int (nI k)]) 4 (.int x)) 3 (.int (nI turn))) [] S none S' ∧ RI S0 e5 e6 (D ++ D') [] S' := by
  intro n
  induction n with
  | zero =>
    intro turn x D ws S hn ht h
    rcases list_last ws with rfl | ⟨ws1, g, rfl⟩
    · exact ⟨S, [], rel_out (by omega) h.2.2.1.1, by rw [List.append_nil]; exact h⟩
    · obtain ⟨hg1, hg2, hg3, _⟩ := h.2.2.2.2.1 g (List.mem_append_right _ (List.mem_singleton.mpr rfl))
      have := nLive_pos hg2 hg3
      omega
  | succ n ih =>
    intro turn x D ws S hn ht h
    rcases list_last ws with rfl | ⟨ws1, g, rfl⟩
    · exact ⟨S, [], rel_out (by omega) h.2.2.1.1, by rw [List.append_nil]; exact h⟩
    · have hlen : (ws1 ++ [g]).length ≤ 1500 := nodup_len h.2.2.2.1 (fun x hx => ⟨(h.2.2.2.2.1 x hx).1, (h.2.2.2.2.1 x hx).2.1⟩)
      rw [List.length_append, List.length_singleton] at hlen
      have hm : sI S 216 = nI (ws1.length + 1) := by rw [h.2.2.1.1, List.length_append]; rfl
      have hg : sA S 14 ws1.length = nI g := h.2.2.1.2 _ _ (by rw [List.getElem?_append_right (Nat.le_refl _), Nat.sub_self]; rfl)
      obtain ⟨S1, S2, ws', hV, hR, hI, hl⟩ := RI_turn (d := d) h
      obtain ⟨S', D', hb, hI'⟩ := ih (turn + 1) (nI g) (D ++ [g]) ws' S2 (by omega) (by omega) hI
      exact ⟨S', g :: D', rel_itB (by omega) hm hg (by omega) hV hR hb, by rw [List.append_assoc] at hI'; exact hI'⟩
