/-! STATEMENTS OF THE REFERENCE: a class's names: give (341) -/
theorem zK_past {β : Nat → Nat} {n k1 : Nat} (h : qK β n k1 = 1) : ∀ d, qK β n (k1 + d) = 1 := by
  intro d
  induction d with
  | zero => exact h
  | succ d ih =>
    have e : tq β n (k1 + d + 1) = tq_nx β n (tq β n (k1 + d)) := rfl
    have h1 : (tq β n (k1 + d)).1 = 1 := ih
    show (tq β n (k1 + d + 1)).1 = 1
    rw [e]
    unfold tq_nx
    rw [if_pos h1]
    exact h1
section
variable {β : Nat → Nat} {n : Nat} {E : Nat → Nat → Bool} {V : Nat → Int32} {P : Nat → Int32 → Int32 × Int32} {A : Prop} {own0 : Nat → Nat × Nat} {m u k1 : Nat} {S0 S S1 S2 : cS} {H B0 W d c w t f b f1 j l s : Nat} {X : Nat → Nat} {o1 os2 : List Op}
theorem zX_V (hX : zX β n V own0 m k1 S0) {k : Nat} (hk : qK β n k = 3) : ∃ r, r < 90000 ∧ V k = nI r := by
  obtain ⟨g0, g1, nn, h1, h2, h3, h4, h5, h6⟩ := hX.2.2.2.2.2.2.2.2
  have hk1 : k ≤ k1 := by
    rcases Nat.lt_or_ge k1 k with e | e
    · have := zK_past hX.2.2.1 (k - k1)
      rw [show k1 + (k - k1) = k by omega, hk] at this
      cases this
    · exact e
  obtain ⟨t1, t2, t3, t4, t5⟩ := h6 k hk1
  obtain ⟨r, r1, r2, r3, r4⟩ := t4 hk
  exact ⟨r, by omega, by rw [hX.2.2.2.2.2.2.1 k]; exact r2⟩
/-- two words that steps don't tell, or do -/
theorem zO_put2 (h : zO β n V P A own0 m u S0 H B0 X l S c w t f b j o1 f1 S1) (h2 : zE own0 m u S0 H B0 (c + wR (qK β n) o1 + 2) (w + nwN (qK β n) o1) (t + ntN (qK β n) o1) f1 (b + (zbk (qK β n) c o1).length) S2) (hx : kX m S1 S2) (hr : kR m (c + wR (qK β n) o1) (w + nwN (qK β n) o1) (t + ntN (qK β n) o1) S1 S2) (h0 : sI S2 6115 = sI S1 6115 ∧ sI S2 6116 = sI S1 6116) (hw2 : wR (qK β n) os2 = 2) (hn : nwN (qK β n) os2 = 0 ∧ ntN (qK β n) os2 = 0) (h60 : n60 os2) (h23 : w23 os2) (hl : A → lsS β n V P S2 m (w + nwN (qK β n) o1) (t + ntN (qK β n) o1) (c + wR (qK β n) o1) os2) : zO β n V P A own0 m u S0 H B0 X l S c w t f b j (o1 ++ os2) f1 S2 := by
  have e4 : zbk (qK β n) (c + wR (qK β n) o1) os2 = [] := zbk_n _ _ _ h60
  refine zO_app (Y := X) h ?_ (fun _ => Nat.le_refl _) id
  unfold zO
  rw [hw2, hn.1, hn.2, e4]
  exact ⟨h2, h0.1.trans h.2.1, h0.2.trans h.2.2.1, hl, h23, kX_kW hx hr, kX_kA hx, Nat.le_refl _, fun i p hp => by cases hp⟩
/-- names that aren't r are passed -/
theorem gv_pass {r af na i0 : Nat} (hr : r < 2 ^ 20) (hna : sI S1 6139 = nI na) (mna : na < 6000) (hi0 : af + i0 ≤ na) : ∀ (q li : Nat), li + q = af + i0 → (∀ j, li ≤ j → j < af + i0 → ∃ e, e < 2 ^ 20 ∧ sA S1 84 j = nI e ∧ e ≠ r) → ∀ (v : Option Value) (Sf : cS), (∀ lv : sm_L, sm_get lv 0 = some (.ref 61) → sm_get lv 1 = some (.int (nI r)) → sm_get lv 2 = some (.int (nI (af + i0))) → Bod (d + 8) 341 5 lv [] S1 v Sf) → ∀ lv : sm_L, sm_get lv 0 = some (.ref 61) → sm_get lv 1 = some (.int (nI r)) → sm_get lv 2 = some (.int (nI li)) → Bod (d + 8) 341 5 lv [] S1 v Sf := by
  intro q
  induction q with
  | zero =>
    intro li h1 h2 v Sf hB lv q0 q1 q2
    obtain rfl : li = af + i0 := by omega
    exact hB lv q0 q1 q2
  | succ q ih =>
    intro li h1 h2 v Sf hB lv q0 q1 q2
    obtain ⟨e, e1, e2, e3⟩ := h2 li (Nat.le_refl _) (by omega)
    exact zGvL_4 (d := d) q0 q1 q2 hr (by omega) hna mna (by omega) (by omega) e2 e1 e3 (fun lv1 p0 p1 p2 => ih (li + 1) (by omega) (fun j j1 j2 => h2 j (by omega) j2) v Sf hB lv1 p0 p1 p2)
theorem z_give {kk r af : Nat} {at' : List Nat} (hX : zX β n V own0 m k1 S0) (hE : eqV E (qK β n) V) (z : zO β n V P A own0 m u S0 H B0 X l S c w t f b j o1 f1 S1) (hAt : zAt (qK β n) V af at' S1) (haf : sI S1 6140 = nI af) (hkk : qK β n kk = 3) (hV : V kk = nI r) (hr : r < 90000) (hc : c + wR (qK β n) o1 + 2 ≤ H) (hH : H ≤ 40000) (hM : af + at'.length < 6000) (hX6 : X 6 ≤ af + at'.length) : ∃ S2, Ans (d + 9) 341 [.ref 61, .int (nI r)] S1 none S2 ∧ zO β n V P A own0 m u S0 H B0 X l S c w t f b j (o1 ++ gvO E at' kk) f1 S2 ∧ zAt (qK β n) V af (gvA E at' kk) S2 ∧ (∀ i, i < 10800 → i ≠ 6115 → i ≠ 6116 → i ≠ 6131 → i ≠ 6132 → i ≠ 6139 → sI S2 i = sI S1 i) ∧ (dNm S2 m = dNm S1 m ∧ dAt S2 m = dAt S1 m ∧ dPa S2 m = dPa S1 m ∧ dLo S2 m = dLo S1 m) ∧ n60 (gvO E at' kk) ∧ wR (qK β n) (gvO E at' kk) ≤ 2 ∧ nwN (qK β n) (gvO E at' kk) = 0 ∧ ntN (qK β n) (gvO E at' kk) = 0 ∧ at'.length ≤ (gvA E at' kk).length ∧ (gvA E at' kk).length ≤ at'.length + 1 := by
  have ml : ∀ {Sf : cS}, Bod (d + 8) 341 0 [(0, .ref 61), (1, .int (nI r))] [] S1 none Sf → Ans (d + 9) 341 [.ref 61, .int (nI r)] S1 none Sf := fun p => Ans.of (by rw [ml_341]; exact Nat.le_of_ble_eq_true rfl) p
  obtain ⟨hna, hel⟩ := hAt
  have hm1 := hX.2.2.2.2.1
  have hel2 : ∀ i k, at'[i]? = some k → ∃ e, e < 2 ^ 20 ∧ sA S1 84 (af + i) = nI e ∧ (E k kk = true ↔ e = r) := fun i k hi => by
    obtain ⟨o1, o2⟩ := hel i k hi
    obtain ⟨e, e1, e2⟩ := zX_V hX o2
    refine ⟨e, by omega, o1.trans e2, (hE k kk o2 hkk).trans ?_⟩
    rw [e2, hV]
    constructor
    · intro q
      rcases Decidable.em (e = r) with q2 | q2
      · exact q2
      · exact absurd q (k_ne e r rfl rfl q2 (by omega) (by omega))
    · intro q
      rw [q]
  unfold gvO gvA
  cases hg : gvI E at' kk with
  | some i =>
    unfold gvI at hg
    rw [List.findIdx?_eq_some_iff_getElem] at hg
    obtain ⟨i1, i2, i3⟩ := hg
    obtain ⟨e, e1, e2, e3⟩ := hel2 i at'[i] (List.getElem?_eq_getElem i1)
    have her : e = r := e3.mp i2
    have hpass : ∀ j, af ≤ j → j < af + i → ∃ e, e < 2 ^ 20 ∧ sA S1 84 j = nI e ∧ e ≠ r := fun j j1 j2 => by
      obtain ⟨e', y1, y2, y3⟩ := hel2 (j - af) (at'[j - af]'(by omega)) (List.getElem?_eq_getElem (by omega))
      rw [show af + (j - af) = j by omega] at y2
      refine ⟨e', y1, y2, fun q => ?_⟩
      have := i3 (j - af) (by omega)
      exact this (y3.mpr q)
    obtain ⟨own, hE1, hback⟩ := zE_rE z.1
    obtain ⟨S2, hA, r1, r2, r3, r4, r5⟩ := rE_2 (d := d + 4) hE1 (by omega) (zE_86 hX z.1) (nI 38) (nI (af + at'.length - (af + i)))
    obtain ⟨z1, z2⟩ := hback S2 _ _ _ r1 hc
    have hAns : Ans (d + 9) 341 [.ref 61, .int (nI r)] S1 none S2 := ml (zGv_1 (d := d) (by omega) haf (by omega) (fun lv q0 q1 q2 => gv_pass (by omega) hna hM (by omega) i af rfl hpass none S2 (fun lv1 p0 p1 p2 => zGvL_3 (d := d) p0 p1 p2 (by omega) (by omega) hna hM (by omega) (by omega) e2 e1 her (by omega) hA) lv q0 q1 q2))
    have hz : ∀ os2 : List Op, wR (qK β n) os2 = 2 → nwN (qK β n) os2 = 0 ∧ ntN (qK β n) os2 = 0 → n60 os2 → w23 os2 → (A → lsS β n V P S2 m (w + nwN (qK β n) o1) (t + ntN (qK β n) o1) (c + wR (qK β n) o1) os2) → zO β n V P A own0 m u S0 H B0 X l S c w t f b j (o1 ++ os2) f1 S2 := fun os2 a1 a2 a3 a4 a5 => zO_put2 z z1 z2 r2 ⟨r5 _ (by omega), r5 _ (by omega)⟩ a1 a2 a3 a4 a5
    have hAt2 : zAt (qK β n) V af at' S2 := ⟨(r5 _ (by omega)).trans hna, fun i k hi => by
      rw [(z2.2.1 84 (by decide) (by decide) (by decide) (by decide)).1]
      exact hel i k hi⟩
    have hrest : (∀ i, i < 10800 → i ≠ 6115 → i ≠ 6116 → i ≠ 6131 → i ≠ 6132 → i ≠ 6139 → sI S2 i = sI S1 i) ∧ (dNm S2 m = dNm S1 m ∧ dAt S2 m = dAt S1 m ∧ dPa S2 m = dPa S1 m ∧ dLo S2 m = dLo S1 m) := ⟨fun i i0 i1 i2 i3 i4 _ => z2.1 i i0 i1 i2 i3 i4, z2.2.2.1, z2.2.2.2.1, z2.2.2.2.2.1, z2.2.2.2.2.2.1⟩
    dsimp only
    by_cases hi : i < 40
    · rw [if_pos hi]
      have n6 : n60 [((24, [min at'.length 40 - i, at'.length - i], 0, 0) : Op)] := n60_1 (by show (24 : Nat) ≠ 60; decide)
      refine ⟨S2, hAns, hz [(24, [min at'.length 40 - i, at'.length - i], 0, 0)] rfl ⟨rfl, rfl⟩ n6 (w23_1 (by show (24 : Nat) ≠ 23; decide)) (fun _ => ⟨⟨?_, fun q => absurd q (by show (24 : Nat) ≠ 16; decide), fun q => absurd q (by show (24 : Nat) ≠ 16; decide), fun q => absurd q (by show (24 : Nat) ≠ 16; decide)⟩, trivial⟩), hAt2, hrest.1, hrest.2, n6, Nat.le_refl _, rfl, rfl, Nat.le_refl _, Nat.le_succ _⟩
      have ew : wdS V P (24, [min at'.length 40 - i, at'.length - i], 0, 0) = [nI 38, nI (at'.length - i)] := rfl
      rw [ew]
      exact two_w r3 (by rw [r4]; exact congrArg nI (by omega))
    · rw [if_neg hi]
      have n6 : n60 [((15, [8, 1], 0, 0) : Op), (61, [1], 0, 0)] := fun o ho => by
        simp only [List.mem_cons, List.not_mem_nil, or_false] at ho
        rcases ho with rfl | rfl
        · show (15 : Nat) ≠ 60; decide
        · show (61 : Nat) ≠ 60; decide
      refine ⟨S2, hAns, hz [(15, [8, 1], 0, 0), (61, [1], 0, 0)] rfl ⟨rfl, rfl⟩ n6 (fun o ho => ?_) (fun _ => ⟨⟨?_, fun q => absurd q (by show (15 : Nat) ≠ 16; decide), fun q => absurd q (by show (15 : Nat) ≠ 16; decide), fun q => absurd q (by show (15 : Nat) ≠ 16; decide)⟩, ⟨?_, fun q => absurd q (by show (61 : Nat) ≠ 16; decide), fun q => absurd q (by show (61 : Nat) ≠ 16; decide), fun q => absurd q (by show (61 : Nat) ≠ 16; decide)⟩, trivial⟩), hAt2, hrest.1, hrest.2, n6, Nat.le_refl _, rfl, rfl, Nat.le_refl _, Nat.le_succ _⟩
      · simp only [List.mem_cons, List.not_mem_nil, or_false] at ho
        rcases ho with rfl | rfl
        · exact fun q => absurd q (by show (15 : Nat) ≠ 23; decide)
        · exact fun q => absurd q (by show (61 : Nat) ≠ 23; decide)
      · have ew : wdS V P (15, [8, 1], 0, 0) = [] := rfl
        rw [ew]
        exact fun i x hx => by cases hx
      · have ew : wdS V P (61, [1], 0, 0) = [] := rfl
        rw [ew]
        exact fun i x hx => by cases hx
  | none =>
    unfold gvI at hg
    rw [List.findIdx?_eq_none_iff] at hg
    have hpass : ∀ j, af ≤ j → j < af + at'.length → ∃ e, e < 2 ^ 20 ∧ sA S1 84 j = nI e ∧ e ≠ r := fun j j1 j2 => by
      obtain ⟨e', y1, y2, y3⟩ := hel2 (j - af) (at'[j - af]'(by omega)) (List.getElem?_eq_getElem (by omega))
      rw [show af + (j - af) = j by omega] at y2
      refine ⟨e', y1, y2, fun q => ?_⟩
      have h1 := hg (at'[j - af]'(by omega)) (List.getElem_mem ..)
      rw [y3.mpr q] at h1
      cases h1
    have hlen : (at' ++ [kk]).length = at'.length + 1 := by rw [List.length_append]; rfl
    -- what the name's place takes
    have fin : ∀ (os2 : List Op) (S2 : cS), zO β n V P A own0 m u S0 H B0 X l S c w t f b j (o1 ++ os2) f1 S2 → kX m S1 S2 → zO β n V P A own0 m u S0 H B0 X l S c w t f b j (o1 ++ os2) f1 (wI 6139 (nI (af + at'.length + 1)) (wA 84 (af + at'.length) (nI r) S2)) ∧ zAt (qK β n) V af (at' ++ [kk]) (wI 6139 (nI (af + at'.length + 1)) (wA 84 (af + at'.length) (nI r) S2)) ∧ (∀ i, i < 10800 → i ≠ 6115 → i ≠ 6116 → i ≠ 6131 → i ≠ 6132 → i ≠ 6139 → sI (wI 6139 (nI (af + at'.length + 1)) (wA 84 (af + at'.length) (nI r) S2)) i = sI S1 i) ∧ (dNm (wI 6139 (nI (af + at'.length + 1)) (wA 84 (af + at'.length) (nI r) S2)) m = dNm S1 m ∧ dAt (wI 6139 (nI (af + at'.length + 1)) (wA 84 (af + at'.length) (nI r) S2)) m = dAt S1 m ∧ dPa (wI 6139 (nI (af + at'.length + 1)) (wA 84 (af + at'.length) (nI r) S2)) m = dPa S1 m ∧ dLo (wI 6139 (nI (af + at'.length + 1)) (wA 84 (af + at'.length) (nI r) S2)) m = dLo S1 m) := by
      intro os2 S2 zo kx
      obtain ⟨S3, hS3⟩ : ∃ S3, S3 = wI 6139 (nI (af + at'.length + 1)) (wA 84 (af + at'.length) (nI r) S2) := ⟨_, rfl⟩
      rw [← hS3]
      have e84 : ∀ i, sA S3 84 i = if i = af + at'.length then nI r else sA S2 84 i := fun i => by
        rw [hS3]
        show (if 84 = 84 then upd (sA S2 84) (af + at'.length) (nI r) else sA S2 84) i = _
        rw [if_pos rfl, upd_at]
      have eA : ∀ a, a ≠ 84 → sA S3 a = sA S2 a := fun a ha => by rw [hS3]; exact rAn _ _ _ ha
      have k3 : kF S2 S3 := by rw [hS3]; exact kF_trans (kF_wA (by decide)) kF_wI
      obtain ⟨q1, q2, q3, q4, q5, q6, q7, q8, q9⟩ := zo
      obtain ⟨b1, ⟨b2, b3, b4, b5⟩, b6, b7⟩ := kF_all q1 k3
      obtain ⟨a1, a2, a3, a4, a5, a6, a7⟩ := q7
      refine ⟨⟨by rw [hS3]; exact zE_wI (zE_wA q1 (by decide)) (by decide), by rw [hS3]; exact (rIn _ _ (by decide)).trans q2, by rw [hS3]; exact (rIn _ _ (by decide)).trans q3, fun hq => lsS_mv (S := S2) (S1 := S3) (fun i hi => (b1 0 (w + nwN (qK β n) (o1 ++ os2)) (t + ntN (qK β n) (o1 ++ os2))).2.1 i hi) (fun i hi => (b1 0 (w + nwN (qK β n) (o1 ++ os2)) (t + ntN (qK β n) (o1 ++ os2))).2.2 i hi) (Nat.le_refl _) (Nat.le_refl _) _ c c q5 (fun i _ => (b1 (c + i + 1) 0 0).1 (c + i) (by omega)) (q4 hq), q5, kW_trans q6 (kF_kW q1 k3) (Nat.le_refl _) (Nat.le_refl _) (Nat.le_refl _) q8 (Nat.le_refl _), ⟨fun i hi => by rw [eA 73 (by decide)]; exact a1 i hi, fun i hi => by rw [eA 75 (by decide), eA 76 (by decide), eA 83 (by decide)]; exact a2 i hi, fun i hi => by rw [eA 77 (by decide), eA 78 (by decide)]; exact a3 i hi, fun i hi => by rw [eA 74 (by decide)]; exact a4 i hi, fun i hi => by rw [eA 82 (by decide)]; exact a5 i hi, fun i hi => by rw [eA 81 (by decide)]; exact a6 i hi, fun i hi => by rw [e84, if_neg (by omega)]; exact a7 i hi⟩, q8, fun i p hp => ?_⟩, ⟨?_, fun i k hi => ?_⟩, fun i i0 i1 i2 i3 i4 i5 => ?_, b2.trans kx.2.2.1, b3.trans kx.2.2.2.1, b4.trans kx.2.2.2.2.1, b5.trans kx.2.2.2.2.2.1⟩
      · rw [b6, b7]
        exact q9 i p hp
      · rw [hlen, hS3, rIe]
        rfl
      · rw [List.getElem?_append] at hi
        by_cases hil : i < at'.length
        · rw [if_pos hil] at hi
          obtain ⟨x1, x2⟩ := hel i k hi
          exact ⟨by rw [e84, if_neg (by omega), (kx.2.1 84 (by decide) (by decide) (by decide) (by decide)).1]; exact x1, x2⟩
        · rw [if_neg hil] at hi
          have hi2 : i - at'.length = 0 := by
            rcases Nat.eq_zero_or_pos (i - at'.length) with q | q
            · exact q
            · rw [List.getElem?_eq_none (by show 1 ≤ _; omega)] at hi
              cases hi
          rw [hi2] at hi
          injection hi with hi
          exact ⟨by rw [e84, if_pos (by omega), ← hi]; exact hV.symm, by rw [← hi]; exact hkk⟩
      · rw [hS3, rIn _ _ i5]
        show sI S2 i = _
        exact kx.1 i i0 i1 i2 i3 i4
    dsimp only
    by_cases h40 : 40 ≤ at'.length
    · rw [if_pos h40]
      obtain ⟨S2, hA, z2, kx2⟩ := zO_1 (d := d + 4) (o := (15, [8], 0, 0)) (x := nI 39) hX z (by omega) hH rfl (by show (15 : Nat) ≠ 16; decide) (by show (15 : Nat) ≠ 60; decide) (by show (15 : Nat) ≠ 23; decide) rfl
      obtain ⟨f1, f2, f3, f4⟩ := fin [(15, [8], 0, 0)] S2 z2 kx2
      have n6 : n60 [((15, [8], 0, 0) : Op)] := n60_1 (by show (15 : Nat) ≠ 60; decide)
      refine ⟨_, ml (zGv_1 (d := d) (by omega) haf (by omega) (fun lv q0 q1 q2 => gv_pass (by omega) hna hM (by omega) at'.length af rfl hpass none _ (fun lv1 p0 p1 p2 => zGvL_2 (d := d) p0 p1 p2 (by omega) (by omega) hna hM (by omega) haf (by omega) (by omega) (by omega) hA ((kx2.1 _ (by decide) (by decide) (by decide) (by decide) (by decide)).trans hna) hM) lv q0 q1 q2)), f1, f2, f3, f4, n6, Nat.le_succ 1, rfl, rfl, by rw [hlen]; exact Nat.le_succ _, by rw [hlen]; exact Nat.le_refl _⟩
    · rw [if_neg h40]
      have z' : zO β n V P A own0 m u S0 H B0 X l S c w t f b j (o1 ++ []) f1 S1 := by rw [List.append_nil]; exact z
      obtain ⟨f1, f2, f3, f4⟩ := fin [] S1 z' (kX_refl m S1)
      exact ⟨_, ml (zGv_1 (d := d) (by omega) haf (by omega) (fun lv q0 q1 q2 => gv_pass (by omega) hna hM (by omega) at'.length af rfl hpass none _ (fun lv1 p0 p1 p2 => zGvL_1 (d := d) p0 p1 p2 (by omega) (by omega) hna hM (by omega) haf (by omega) (by omega) (by omega)) lv q0 q1 q2)), f1, f2, f3, f4, (fun o ho => by cases ho), Nat.zero_le _, rfl, rfl, by rw [hlen]; exact Nat.le_succ _, by rw [hlen]; exact Nat.le_refl _⟩
end
