/-! STATEMENTS OF THE REFERENCE: a function's names: told local, told global -/
theorem q_in {β : Nat → Nat} {n k : Nat} (h1 : qK β n k ≠ 1) (h2 : qK β n k ≠ 2) : qK β n (k + 1) ≠ 1 ∧ qI β n (k + 1) = qI β n k := by
  have e : tq β n (k + 1) = tq_nx β n (tq β n k) := rfl
  have h1' : (tq β n k).1 ≠ 1 := h1
  have h2' : (tq β n k).1 ≠ 2 := h2
  unfold qK qI
  rw [e]
  unfold tq_nx
  rw [if_neg h1', if_neg h2']
  exact ⟨tk_kind.1, rfl⟩
theorem q_22 {β : Nat → Nat} {n k : Nat} (h : qK β n k = 2) : qK β n (k + 1) ≠ 2 := by
  have e : tq β n (k + 1) = tq_nx β n (tq β n k) := rfl
  have h' : (tq β n k).1 = 2 := h
  have key : ∀ p l last, p ≤ n → (tq_ln β n p l last).1 ≠ 2 := fun p l last hp => by
    unfold tq_ln
    cases ht : tl β n (n + 1) p l with
    | none => exact fun q => by cases q
    | some r =>
      obtain ⟨q, l2, i⟩ := r
      obtain ⟨a1, a2, a3, a4, a5, a6, a7, a8⟩ := tl_ok _ _ _ _ _ _ hp ht
      show (tk β n q).1 ≠ 2
      intro h2
      have := tk_k2 (β := β) (n := n) (p := q) h2
      rcases this with h3 | h3 | h3
      all_goals first | exact a3 h3 | exact a4 h3 | omega
  unfold qK
  rw [e]
  unfold tq_nx
  rw [if_neg (by rw [h']; decide), if_pos h']
  split
  · rename_i hlt
    exact key _ _ _ hlt
  · exact fun q => by cases q
/-- a line's newline -/
theorem nx_ok {β : Nat → Nat} {n k1 : Nat} (hk1 : qK β n k1 = 1) (hj : ∀ j, j < k1 → qK β n j ≠ 1) : ∀ (g k : Nat), k1 ≤ k + g → k ≤ k1 → qK β n k ≠ 1 → ∃ r, k ≤ r ∧ r < k1 ∧ qK β n r = 2 ∧ (∀ j, k ≤ j → j < r → qK β n j ≠ 2 ∧ qK β n j ≠ 1) ∧ (∀ j, k ≤ j → j ≤ r → qI β n j = qI β n k) ∧ ∀ f, r < k + f → nxK (qK β n) f k = r + 1 := by
  intro g
  induction g with
  | zero =>
    intro k h1 h2 h3
    obtain rfl : k = k1 := by omega
    exact absurd hk1 h3
  | succ g ih =>
    intro k h1 h2 h3
    have hlt : k < k1 := by
      rcases Nat.lt_or_ge k k1 with e | e
      · exact e
      · obtain rfl : k = k1 := by omega
        exact absurd hk1 h3
    by_cases e2 : qK β n k = 2
    · refine ⟨k, Nat.le_refl _, hlt, e2, fun j a b => by omega, fun j a b => ?_, fun f hf => ?_⟩
      · obtain rfl : j = k := by omega
        rfl
      · obtain ⟨f', rfl⟩ : ∃ f', f = f' + 1 := ⟨f - 1, by omega⟩
        show (if qK β n k = 2 then k + 1 else _) = _
        rw [if_pos e2]
    · obtain ⟨q1, q2⟩ := q_in h3 e2
      obtain ⟨r, r1, r2, r3, r4, r5, r6⟩ := ih (k + 1) (by omega) (by omega) q1
      refine ⟨r, by omega, r2, r3, fun j a b => ?_, fun j a b => ?_, fun f hf => ?_⟩
      · rcases Nat.lt_or_ge k j with e | e
        · exact r4 j e b
        · obtain rfl : j = k := by omega
          exact ⟨e2, h3⟩
      · rcases Nat.lt_or_ge k j with e | e
        · exact (r5 j e b).trans q2
        · obtain rfl : j = k := by omega
          rfl
      · obtain ⟨f', rfl⟩ : ∃ f', f = f' + 1 := ⟨f - 1, by omega⟩
        show (if qK β n k = 2 then k + 1 else nxK (qK β n) f' (k + 1)) = _
        rw [if_neg e2]
        exact r6 f' (by omega)
/-- a scan goes on: l the locals, o what is global, of a function whose names begin at a, bo -/
def zSn (own0 : Nat → Nat × Nat) (m u : Nat) (S0 : cS) (H B0 c w t f b : Nat) (a bo : Nat) (l o : List Int32) (Sb S : cS) : Prop := zE own0 m u S0 H B0 c w t f b S ∧ sI S 6123 = nI (a + l.length) ∧ sI S 6137 = nI (bo + o.length) ∧ (∀ i y, l[i]? = some y → sA S 74 (a + i) = y ∧ ∃ r, r < 2 ^ 20 ∧ y = nI r) ∧ (∀ i y, o[i]? = some y → sA S 82 (bo + i) = y) ∧ (∀ i, i < a → sA S 74 i = sA Sb 74 i) ∧ (∀ i, i < bo → sA S 82 i = sA Sb 82 i) ∧ (∀ x, x ≠ 74 → x ≠ 82 → sA S x = sA Sb x) ∧ (∀ i, i ≠ 6123 → i ≠ 6137 → sI S i = sI Sb i) ∧ sV S = sV Sb ∧ sL S = sL Sb
theorem find_mem {l : List Int32} {x : Int32} : (∀ i, l.findIdx? (fun y => y == x) = some i → l[i]? = some x) ∧ (l.findIdx? (fun y => y == x) = none → x ∉ l) := by
  constructor
  · intro i h
    rw [List.findIdx?_eq_some_iff_getElem] at h
    obtain ⟨h1, h2, -⟩ := h
    rw [List.getElem?_eq_getElem h1]
    have : l[i] = x := by simpa using h2
    rw [this]
  · intro h hm
    rw [List.findIdx?_eq_none_iff] at h
    have := h x hm
    simp at this
section
variable {β : Nat → Nat} {n : Nat} {V : Nat → Int32} {own0 : Nat → Nat × Nat} {m u k1 : Nat} {S0 Sb S S1 S2 : cS} {H B0 d c w t f b a bo p F : Nat} {l o : List Int32}
theorem sn_loc {d r : Nat} (h : zSn own0 m u S0 H B0 c w t f b a bo l o Sb S) (hF : sI Sb 6122 = nI F) (hFM : F < 15) (h75 : sA Sb 75 F = nI a) (ha : a + l.length ≤ 6000) (hr : r < 2 ^ 20) : (∀ i, l.findIdx? (fun y => y == nI r) = some i → Ans (d + 1) 319 [.ref 61, .int (nI F), .int (nI r)] S (some (.int (nI i))) S) ∧ (l.findIdx? (fun y => y == nI r) = none → Ans (d + 1) 319 [.ref 61, .int (nI F), .int (nI r)] S (some (.int (Int32.ofInt (-1)))) S) := by
  obtain ⟨h1, h2, h3, h4, h5, h6, h7, h8, h9, h10, h11⟩ := h
  have e := localOf_T (d := d) (S := S) (f := F) (r := r) (a := a) (e := a + l.length) (F := F) hr hFM (by omega) ha (by rw [h9 _ (by decide) (by decide)]; exact hF) (by omega) (Or.inl ⟨rfl, h2⟩) (by rw [h8 75 (by decide) (by decide)]; exact h75)
  rw [show a + l.length - a = l.length by omega, lf_l (B := sA S 74) (x := nI r) l a (fun i y hy => (h4 i y hy).1)] at e
  refine ⟨fun i hi => ?_, fun hi => ?_⟩
  · rw [hi] at e
    have e2 : oI a ((some i).map (fun i => a + i)) = nI i := by
      show oI a (some (a + i)) = _
      unfold oI
      dsimp only
      exact congrArg nI (by omega)
    rw [e2] at e
    exact e
  · rw [hi] at e
    exact e
theorem bind_ev {d r : Nat} (h : zSn own0 m u S0 H B0 c w t f b a bo l o Sb S) (hF : sI Sb 6122 = nI F) (hFM : F < 15) (h75 : sA Sb 75 F = nI a) (ha : a + (bindH l (nI r)).length ≤ 6000) (hr : r < 2 ^ 20) : ∃ S1, Ans (d + 9) 339 [.ref 61, .int (nI r)] S none S1 ∧ zSn own0 m u S0 H B0 c w t f b a bo (bindH l (nI r)) o Sb S1 := by
  have hal : a + l.length ≤ 6000 := by
    unfold bindH at ha
    split at ha
    · exact ha
    · rw [List.length_append] at ha
      omega
  obtain ⟨g1, g2⟩ := sn_loc (d := d + 7) h hF hFM h75 hal hr
  obtain ⟨m1, m2⟩ := find_mem (l := l) (x := nI r)
  have hFS : sI S 6122 = nI F := (h.2.2.2.2.2.2.2.2.1 _ (by decide) (by decide)).trans hF
  cases hx : l.findIdx? (fun y => y == nI r) with
  | some i =>
    have hm : nI r ∈ l := List.mem_of_getElem? (m1 i hx)
    have hi : i < l.length := (List.getElem?_eq_some_iff.mp (m1 i hx)).1
    refine ⟨S, Ans.of (by rw [ml_339]; exact Nat.le_of_ble_eq_true rfl) (zBh_1 (d := d) hr hFS hFM (by omega) (g1 i hx)), ?_⟩
    unfold bindH
    rw [if_pos hm]
    exact h
  | none =>
    have hm := m2 hx
    have hN := h.2.1
    unfold bindH at ha
    rw [if_neg hm, List.length_append] at ha
    have ha' : a + l.length < 6000 := by
      have : [nI r].length = 1 := rfl
      omega
    refine ⟨_, Ans.of (by rw [ml_339]; exact Nat.le_of_ble_eq_true rfl) (zBh_2 (d := d) hr hFS hFM (g2 hx) hN ha'), ?_⟩
    unfold bindH
    rw [if_neg hm]
    obtain ⟨h1, h2, h3, h4, h5, h6, h7, h8, h9, h10, h11⟩ := h
    have eA : ∀ x, x ≠ 74 → sA (wI 6123 (nI (a + l.length + 1)) (wA 74 (a + l.length) (nI r) S)) x = sA S x := fun x hx => rAn _ _ _ hx
    have e74 : ∀ i, sA (wI 6123 (nI (a + l.length + 1)) (wA 74 (a + l.length) (nI r) S)) 74 i = if i = a + l.length then nI r else sA S 74 i := fun i => by
      show (if 74 = 74 then upd (sA S 74) (a + l.length) (nI r) else sA S 74) i = _
      rw [if_pos rfl, upd_at]
    refine ⟨zE_wI (zE_wA h1 (by decide)) (by decide), ?_, (rIn _ _ (by decide)).trans h3, fun i y hy => ?_, fun i y hy => ?_, fun i hi => ?_, fun i hi => ?_, fun x x1 x2 => ?_, fun i i1 i2 => ?_, h10, h11⟩
    · rw [rIe, List.length_append]
      rfl
    · rw [List.getElem?_append] at hy
      by_cases hi : i < l.length
      · rw [if_pos hi] at hy
        rw [e74, if_neg (by omega)]
        exact h4 i y hy
      · rw [if_neg hi] at hy
        have hi2 : i - l.length = 0 := by
          rcases Nat.eq_zero_or_pos (i - l.length) with e | e
          · exact e
          · rw [List.getElem?_eq_none (by show 1 ≤ _; omega)] at hy
            cases hy
        rw [hi2] at hy
        injection hy with hy
        rw [e74, if_pos (by omega), ← hy]
        exact ⟨rfl, r, hr, rfl⟩
    · rw [eA 82 (by decide)]
      exact h5 i y hy
    · rw [e74, if_neg (by omega)]
      exact h6 i hi
    · rw [eA 82 (by decide)]
      exact h7 i hi
    · rw [eA x x1]
      exact h8 x x1 x2
    · exact (rIn _ _ i1).trans (h9 i i1 i2)
/-- what is behind a local goes one down -/
theorem fg_L {nl : Nat} (hM : nl < 6000) : ∀ (q li : Nat) (S : cS), li + q = nl → zE own0 m u S0 H B0 c w t f b S → sI S 6123 = nI nl → (∀ j, li < j → j ≤ nl → ∃ r, r < 2 ^ 20 ∧ sA S 74 j = nI r) → ∃ S1, (∀ lv : sm_L, sm_get lv 0 = some (.ref 61) → sm_get lv 3 = some (.int (nI li)) → Bod (d + 8) 340 66 lv [] S none S1) ∧ zE own0 m u S0 H B0 c w t f b S1 ∧ (∀ j, sA S1 74 j = if li ≤ j ∧ j < nl then sA S 74 (j + 1) else sA S 74 j) ∧ (∀ x, x ≠ 74 → sA S1 x = sA S x) ∧ (∀ i, sI S1 i = sI S i) ∧ sV S1 = sV S ∧ sL S1 = sL S := by
  intro q
  induction q with
  | zero =>
    intro li S h1 h2 h3 h4
    refine ⟨S, fun lv q0 q3 => zFgL_1 (d := d) q0 q3 (by omega) h3 hM (by omega), h2, fun j => ?_, fun _ _ => rfl, fun _ => rfl, rfl, rfl⟩
    rw [if_neg (by omega)]
  | succ q ih =>
    intro li S h1 h2 h3 h4
    obtain ⟨r, hr, he⟩ := h4 (li + 1) (by omega) (by omega)
    have e74 : ∀ i, sA (wA 74 li (nI r) S) 74 i = if i = li then nI r else sA S 74 i := fun i => by
      show (if 74 = 74 then upd (sA S 74) li (nI r) else sA S 74) i = _
      rw [if_pos rfl, upd_at]
    obtain ⟨S1, hB, g1, g2, g3, g4, g5, g6⟩ := ih (li + 1) (wA 74 li (nI r) S) (by omega) (zE_wA h2 (by decide)) h3 (fun j j1 j2 => by
      rw [e74, if_neg (by omega)]
      exact h4 j (by omega) j2)
    refine ⟨S1, fun lv q0 q3 => zFgL_2 (d := d) q0 q3 (by omega) h3 hM (by omega) (by omega) he hr (by omega) (fun lv1 p0 p3 => hB lv1 p0 p3), g1, fun j => ?_, fun x hx => (g3 x hx).trans (rAn _ _ _ hx), g4, g5, g6⟩
    rw [g2, e74, e74]
    by_cases e1 : j = li
    · rw [if_neg (by omega), if_pos e1, if_pos (by omega), e1, he]
    · by_cases e2 : li + 1 ≤ j ∧ j < nl
      · rw [if_pos e2, if_neg (by omega), if_pos (by omega)]
      · rw [if_neg e2, if_neg e1, if_neg (by omega)]
theorem forget_ev {d r : Nat} (h : zSn own0 m u S0 H B0 c w t f b a bo l o Sb S) (hF : sI Sb 6122 = nI F) (hFM : F < 15) (h75 : sA Sb 75 F = nI a) (h76 : sA Sb 76 F = nI p) (hp : p < 6000) (ha : a + l.length < 6000) (hbo : bo + o.length < 6000) (hr : r < 2 ^ 20) : ∃ S1, Ans (d + 9) 340 [.ref 61, .int (nI r)] S none S1 ∧ zSn own0 m u S0 H B0 c w t f b a bo (erH p l (nI r)) (o ++ [nI r]) Sb S1 := by
  obtain ⟨S', hS'⟩ : ∃ S', S' = wI 6137 (nI (bo + o.length + 1)) (wA 82 (bo + o.length) (nI r) S) := ⟨_, rfl⟩
  have hno := h.2.2.1
  have h' : zSn own0 m u S0 H B0 c w t f b a bo l (o ++ [nI r]) Sb S' := by
    obtain ⟨h1, h2, h3, h4, h5, h6, h7, h8, h9, h10, h11⟩ := h
    have eA : ∀ x, x ≠ 82 → sA S' x = sA S x := fun x hx => by rw [hS']; exact rAn _ _ _ hx
    have e82 : ∀ i, sA S' 82 i = if i = bo + o.length then nI r else sA S 82 i := fun i => by
      rw [hS']
      show (if 82 = 82 then upd (sA S 82) (bo + o.length) (nI r) else sA S 82) i = _
      rw [if_pos rfl, upd_at]
    refine ⟨by rw [hS']; exact zE_wI (zE_wA h1 (by decide)) (by decide), by rw [hS']; exact (rIn _ _ (by decide)).trans h2, ?_, fun i y hy => by rw [eA 74 (by decide)]; exact h4 i y hy, fun i y hy => ?_, fun i hi => by rw [eA 74 (by decide)]; exact h6 i hi, fun i hi => ?_, fun x x1 x2 => by rw [eA x x2]; exact h8 x x1 x2, fun i i1 i2 => by rw [hS']; exact (rIn _ _ i2).trans (h9 i i1 i2), by rw [hS']; exact h10, by rw [hS']; exact h11⟩
    · rw [hS', rIe, List.length_append]
      rfl
    · rw [List.getElem?_append] at hy
      by_cases hi : i < o.length
      · rw [if_pos hi] at hy
        rw [e82, if_neg (by omega)]
        exact h5 i y hy
      · rw [if_neg hi] at hy
        have hi2 : i - o.length = 0 := by
          rcases Nat.eq_zero_or_pos (i - o.length) with e | e
          · exact e
          · rw [List.getElem?_eq_none (by show 1 ≤ _; omega)] at hy
            cases hy
        rw [hi2] at hy
        injection hy with hy
        rw [e82, if_pos (by omega), ← hy]
    · rw [e82, if_neg (by omega)]
      exact h7 i hi
  obtain ⟨g1, g2⟩ := sn_loc (d := d + 7) h' hF hFM h75 (by omega) hr
  obtain ⟨m1, m2⟩ := find_mem (l := l) (x := nI r)
  have hFS : sI S' 6122 = nI F := (h'.2.2.2.2.2.2.2.2.1 _ (by decide) (by decide)).trans hF
  have h75' : sA S' 75 F = nI a := by rw [h'.2.2.2.2.2.2.2.1 75 (by decide) (by decide)]; exact h75
  have h76' : sA S' 76 F = nI p := by rw [h'.2.2.2.2.2.2.2.1 76 (by decide) (by decide)]; exact h76
  unfold erH
  cases hx : l.findIdx? (fun y => y == nI r) with
  | none =>
    have q := g2 hx
    rw [hS'] at q hFS h76'
    refine ⟨S', Ans.of (by rw [ml_340]; exact Nat.le_of_ble_eq_true rfl) ?_, h'⟩
    rw [hS']
    exact zFg_3 (d := d) hr hno hbo hFS hFM q hFS hFM h76' (by omega)
  | some i =>
    have q := g1 i hx
    have hi : i < l.length := (List.getElem?_eq_some_iff.mp (m1 i hx)).1
    dsimp only
    by_cases hip : i < p
    · rw [if_pos hip]
      rw [hS'] at q hFS h76'
      refine ⟨S', Ans.of (by rw [ml_340]; exact Nat.le_of_ble_eq_true rfl) ?_, h'⟩
      rw [hS']
      exact zFg_2 (d := d) hr hno hbo hFS hFM (by omega) q hFS hFM h76' (by omega) hip
    · rw [if_neg hip]
      obtain ⟨h1, h2, h3, h4, h5, h6, h7, h8, h9, h10, h11⟩ := h'
      obtain ⟨S1, hB, k1', k2, k3, k4, k5, k6⟩ := fg_L (own0 := own0) (m := m) (u := u) (S0 := S0) (H := H) (B0 := B0) (c := c) (w := w) (t := t) (f := f) (b := b) (d := d) (nl := a + l.length - 1) (by omega) (l.length - 1 - i) (a + i) (wI 6123 (nI (a + l.length - 1)) S') (by omega) (zE_wI h1 (by decide)) (rIe _ _ _) (fun j j1 j2 => by
        have hj : l[j - a]? = some (l[j - a]'(by omega)) := List.getElem?_eq_getElem (by omega)
        obtain ⟨y1, r', y2, y3⟩ := h4 (j - a) _ hj
        rw [show a + (j - a) = j by omega] at y1
        exact ⟨r', y2, by show sA S' 74 j = _; rw [y1]; exact y3⟩)
      have e1 : ∀ x, x ≠ 74 → sA S1 x = sA S' x := fun x hx => k3 x hx
      have e74 : ∀ j, sA S1 74 j = if a + i ≤ j ∧ j < a + l.length - 1 then sA S' 74 (j + 1) else sA S' 74 j := fun j => k2 j
      refine ⟨S1, Ans.of (by rw [ml_340]; exact Nat.le_of_ble_eq_true rfl) ?_, k1', ?_, ?_, fun j y hy => ?_, fun j y hy => by rw [e1 82 (by decide)]; exact h5 j y hy, fun j hj => ?_, fun j hj => by rw [e1 82 (by decide)]; exact h7 j hj, fun x x1 x2 => by rw [e1 x x1]; exact h8 x x1 x2, fun j j1 j2 => ?_, k5.trans h10, k6.trans h11⟩
      · have hS'e := hS'
        rw [hS'] at q hFS h76' h2 h75' hB
        exact zFg_1 (d := d) hr hno hbo hFS hFM (by omega) q hFS hFM h76' (by omega) (by omega) h2 ha (by omega) h75' (by omega) (fun lv p0 p3 => hB lv p0 p3)
      · rw [k4, rIe, List.length_eraseIdx, if_pos hi]
        exact congrArg nI (by omega)
      · rw [k4]
        exact (rIn _ _ (by decide)).trans h3
      · rw [List.getElem?_eraseIdx] at hy
        rw [e74]
        by_cases e : j < i
        · rw [if_pos e] at hy
          rw [if_neg (by omega)]
          exact h4 j y hy
        · rw [if_neg e] at hy
          have hj := (List.getElem?_eq_some_iff.mp hy).1
          rw [if_pos (by omega)]
          exact h4 (j + 1) y hy
      · rw [e74, if_neg (by omega)]
        exact h6 j hj
      · rw [k4]
        exact (rIn _ _ j1).trans (h9 j j1 j2)
end
