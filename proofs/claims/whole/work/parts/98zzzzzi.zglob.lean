/-! STATEMENTS OF THE REFERENCE: global -/
theorem pm_1 {S : cS} {d r p a F : Nat} {l : List Int32} (hF : sI S 6122 = nI F) (mF : F < 15) (h76 : sA S 76 F = nI p) (h75 : sA S 75 F = nI a) (hl : ∀ i y, l[i]? = some y → sA S 74 (a + i) = y) (hp : p ≤ l.length) (ha : a + l.length ≤ 6000) (hr : r < 2 ^ 20) : ∀ (q li : Nat), li + q = p → (∃ i, li ≤ i ∧ i < p ∧ l[i]? = some (nI r)) → ∀ lv : sm_L, sm_get lv 0 = some (.ref 61) → sm_get lv 1 = some (.int (nI r)) → sm_get lv 2 = some (.int (nI li)) → Bod (d + 8) 331 2 lv [] S (some (.int 1)) S := by
  intro q
  induction q with
  | zero => intro li h1 ⟨i, h2, h3, _⟩ lv _ _ _; omega
  | succ q ih =>
    intro li h1 hx lv q0 q1 q2
    by_cases e : sA S 74 (a + li) = nI r
    · exact zPmL_2 (d := d) q0 q1 q2 hr (by omega) hF mF h76 (by omega) (by omega) h75 (by omega) (by omega) e
    · obtain ⟨i, h2, h3, h4⟩ := hx
      have hne : i ≠ li := fun e2 => e (by rw [← e2]; exact hl i _ h4)
      exact zPmL_3 (d := d) q0 q1 q2 hr (by omega) hF mF h76 (by omega) (by omega) h75 (by omega) (by omega) e (fun lv1 p0 p1 p2 => ih (li + 1) (by omega) ⟨i, by omega, h3, h4⟩ lv1 p0 p1 p2)
theorem pm_0 {S : cS} {d r p a F : Nat} {l : List Int32} (hF : sI S 6122 = nI F) (mF : F < 15) (h76 : sA S 76 F = nI p) (h75 : sA S 75 F = nI a) (hl : ∀ i y, l[i]? = some y → sA S 74 (a + i) = y) (hp : p ≤ l.length) (ha : a + l.length ≤ 6000) (hr : r < 2 ^ 20) : ∀ (q li : Nat), li + q = p → (∀ i, li ≤ i → i < p → l[i]? ≠ some (nI r)) → ∀ lv : sm_L, sm_get lv 0 = some (.ref 61) → sm_get lv 1 = some (.int (nI r)) → sm_get lv 2 = some (.int (nI li)) → Bod (d + 8) 331 2 lv [] S (some (.int 0)) S := by
  intro q
  induction q with
  | zero => intro li h1 _ lv q0 q1 q2; exact zPmL_1 (d := d) q0 q1 q2 hr (by omega) hF mF h76 (by omega) (by omega)
  | succ q ih =>
    intro li h1 hx lv q0 q1 q2
    have e : sA S 74 (a + li) ≠ nI r := fun e => by
      have h2 : l[li]? = some l[li] := List.getElem?_eq_getElem (by omega)
      have h3 := hl li _ h2
      rw [e] at h3
      exact hx li (Nat.le_refl _) (by omega) (by rw [h2, ← h3])
    exact zPmL_3 (d := d) q0 q1 q2 hr (by omega) hF mF h76 (by omega) (by omega) h75 (by omega) (by omega) e (fun lv1 p0 p1 p2 => ih (li + 1) (by omega) (fun i h2 h3 => hx i (by omega) h3) lv1 p0 p1 p2)
theorem tk_mem {l : List Int32} {p : Nat} {x : Int32} : x ∈ l.take p ↔ ∃ i, 0 ≤ i ∧ i < p ∧ l[i]? = some x := by
  rw [List.mem_iff_getElem?]
  constructor
  · rintro ⟨i, hi⟩
    rw [List.getElem?_take] at hi
    split at hi
    · rename_i h; exact ⟨i, Nat.zero_le _, h, hi⟩
    · cases hi
  · rintro ⟨i, _, h, hi⟩
    exact ⟨i, by rw [List.getElem?_take, if_pos h]; exact hi⟩
theorem pm_ev {S : cS} {d r p a F : Nat} {l : List Int32} (hF : sI S 6122 = nI F) (mF : F < 15) (h76 : sA S 76 F = nI p) (h75 : sA S 75 F = nI a) (hl : ∀ i y, l[i]? = some y → sA S 74 (a + i) = y) (hp : p ≤ l.length) (ha : a + l.length ≤ 6000) (hr : r < 2 ^ 20) : (nI r ∈ l.take p → Ans (d + 9) 331 [.ref 61, .int (nI r)] S (some (.int (nI 1))) S) ∧ (nI r ∉ l.take p → Ans (d + 9) 331 [.ref 61, .int (nI r)] S (some (.int (nI 0))) S) := by
  refine ⟨fun hm => ?_, fun hm => ?_⟩
  · exact Ans.of (by rw [ml_331]; exact Nat.le_of_ble_eq_true rfl) (zPm_1 (d := d) hr (fun lv q0 q1 q2 => pm_1 hF mF h76 h75 hl hp ha hr p 0 (Nat.zero_add _) (tk_mem.mp hm) lv q0 q1 q2))
  · exact Ans.of (by rw [ml_331]; exact Nat.le_of_ble_eq_true rfl) (zPm_1 (d := d) hr (fun lv q0 q1 q2 => pm_0 hF mF h76 h75 hl hp ha hr p 0 (Nat.zero_add _) (fun i h1 h2 h3 => hm (tk_mem.mpr ⟨i, h1, h2, h3⟩)) lv q0 q1 q2))
theorem scG_n {E : Nat → Nat → Bool} {s k : Nat} {sc : SCs} : scG E s k sc = none ↔ kp E sc s k := by
  unfold scG kp
  cases h : scF E sc s k with
  | none => exact ⟨(fun q => by cases q), (fun ⟨e, h1, _⟩ => by cases h1)⟩
  | some e =>
    dsimp only
    by_cases h1 : e.2.2 = 1
    · rw [if_pos h1]; exact ⟨fun _ => ⟨e, rfl, h1⟩, fun _ => rfl⟩
    · rw [if_neg h1]; exact ⟨(fun q => by cases q), fun ⟨e', h2, h3⟩ => absurd (by injection h2 with h2; rw [h2]; exact h3) h1⟩
theorem scG_1 {E : Nat → Nat → Bool} {s k : Nat} {sc sc1 : SCs} (h : scG E s k sc = some sc1) : sc1.1 = sc.1 := by
  unfold scG at h
  cases hf : scF E sc s k with
  | none => rw [hf] at h; injection h with h; rw [← h]; rfl
  | some e =>
    rw [hf] at h
    dsimp only at h
    by_cases h1 : e.2.2 = 1
    · rw [if_pos h1] at h; cases h
    · rw [if_neg h1] at h; injection h with h; rw [← h]; rfl
section
variable {β : Nat → Nat} {n : Nat} {E : Nat → Nat → Bool} {V : Nat → Int32} {T : Nat → Nat × Nat} {P : Nat → Int32 → Int32 × Int32} {own0 : Nat → Nat × Nat} {m u k1 : Nat} {S0 S S1 S2 : cS} {H B0 W d l c w t f f1 b j s : Nat} {X Y : Nat → Nat} {o1 o2 : List Op} {A A1 : Prop}
theorem glb_L {p a F k : Nat} {ls : List Int32} {sc : SCs} {at' : List Nat} (hX : zX β n V own0 m k1 S0) (hE : eqR E) (h : zE own0 m u S0 H B0 c w t f b S) (hf0 : sI S 6116 = nI 0) (hw : w ≤ W) (ht : t ≤ W) (hfW : f ≤ W) (hF : sI S 6122 = nI F) (mF : F < 15) (h76 : sA S 76 F = nI p) (h75 : sA S 75 F = nI a) (hl : ∀ i y, ls[i]? = some y → sA S 74 (a + i) = y) (hp : p ≤ ls.length) (ha : a + ls.length ≤ 6000) (hs : s < sc.1.length) (hkp : ∀ j, qK β n j = 3 → (kp E sc s j ↔ V j ∈ ls.take p)) : ∀ (mm : Nat) (sc' : SCs) (q : Nat), k ≤ q → q ≤ k1 → (∀ j, k ≤ j → j ≤ q → 3 ≤ qK β n j) → k1 < q + mm → scL E sc sc' → sc'.1 = sc.1 → ∃ S' v, (∀ lv : sm_L, sm_get lv 0 = some (.ref 61) → Bod (d + 11) 330 12 lv [] (wI 6115 (nI q) S) (some (.int v)) S') ∧ ((psGl (qK β n) E (qL β n k) s at' mm sc' (q + 1) = .inl (qL β n k) ∧ v = nI 0 ∧ zB own0 m u S0 H B0 W (flq (qL β n k)) S') ∨ ∃ r sc2, psGl (qK β n) E (qL β n k) s at' mm sc' (q + 1) = ln (qK β n) (qL β n k) r [] sc2 at' ∧ v = nI 1 ∧ S' = wI 6115 (nI r) S ∧ sc2.1 = sc.1 ∧ scL E sc sc2 ∧ q < r ∧ ∀ j, k ≤ j → j < r → 3 ≤ qK β n j) := by
  intro mm
  induction mm with
  | zero => intro sc' q h1 h2 h3 h4; omega
  | succ mm ih =>
    intro sc' q h1 h2 h3 h4 h5 h6
    have hq1 : q + 1 ≤ k1 := by
      have := h3 q h1 (Nat.le_refl _)
      rcases Nat.lt_or_ge q k1 with e | e
      · exact e
      · obtain rfl : q = k1 := by omega
        have := hX.2.2.1
        omega
    have hk1 := hX.2.1
    have hE1 : zE own0 m u S0 H B0 c w t f b (wI 6115 (nI (q + 1)) S) := zE_wI h (by decide)
    have hE1' : zE own0 m u S0 H B0 c w t f b (wI 6115 (nI (q + 1)) (wI 6115 (nI q) S)) := zE_wI (zE_wI h (by decide)) (by decide)
    have eS : wI 6115 (nI (q + 1)) (wI 6115 (nI q) S) = wI 6115 (nI (q + 1)) S := wI_wI _ _ _ _
    obtain ⟨t1, -, -, -, t5, t6, -, -⟩ := z_tok hX hE1 hq1
    obtain ⟨y1, y2, y3, y4⟩ := rm_run (β := β) (n := n) (k := k) (k1 := q + 1) (by omega) (fun j a1 a2 => h3 j a1 (by omega))
    have ef : fl β n (q + 1) = flq (qL β n k) := by rw [← y2]; rfl
    have hlt := rkd_lt (qK β n (q + 1))
    have ff : sI (wI 6115 (nI (q + 1)) S) 6116 = nI 0 := (rIn _ _ (by decide)).trans hf0
    obtain ⟨b1, b2⟩ := z_bad (d := d + 9) (W := W) (j := q + 1) hX hE1 (rIe _ _ _) ff hq1 hw ht hfW
    rw [ef] at b1 b2
    by_cases e3 : qK β n (q + 1) = 3
    · obtain ⟨r, hr, hV⟩ := t6 e3
      have h68 : sA (wI 6115 (nI (q + 1)) S) 68 (q + 1) = nI r := t5.trans hV
      obtain ⟨g1, g2⟩ := pm_ev (S := wI 6115 (nI (q + 1)) S) (d := d + 2) (r := r) ((rIn _ _ (by decide)).trans hF) mF h76 h75 hl hp ha (by omega)
      have hkp2 : kp E sc' s (q + 1) ↔ nI r ∈ ls.take p := ((h5.2.1 s (q + 1) hs).trans (hkp (q + 1) e3)).trans (by rw [hV])
      have h67 : sA (wI 6115 (nI (q + 1)) S) 67 (q + 1) = nI (rkd (qK β n (q + 1))) := t1
      cases hG : scG E s (q + 1) sc' with
      | none =>
        have hm := hkp2.mp (scG_n.mp hG)
        refine ⟨_, nI 0, fun lv q0 => zGlL_2 (d := d + 3) q0 (rIe _ _ _) (by omega) (show sA (wI 6115 (nI (q + 1)) (wI 6115 (nI q) S)) 67 (q + 1) = _ by rw [eS]; exact h67) (by omega) (rkd_1.mpr e3) (by rw [eS]; exact h68) (by omega) (by rw [eS]; exact g1 hm) b1, Or.inl ⟨?_, rfl, b2⟩⟩
        unfold psGl
        rw [if_pos e3, hG]
      | some sc1 =>
        have hm : nI r ∉ ls.take p := fun q => by
          rw [scG_n.mpr (hkp2.mpr q)] at hG
          cases hG
        have hL := scL_trans h5 (scL_G hE (by rw [h6]; exact hs) hG)
        have hs1 := (scG_1 hG).trans h6
        have hq2 : q + 2 ≤ k1 := by
          rcases Nat.lt_or_ge (q + 1) k1 with e | e
          · exact e
          · obtain e' : q + 1 = k1 := by omega
            have := hX.2.2.1
            rw [← e', e3] at this
            cases this
        have h3' : ∀ j, k ≤ j → j < q + 2 → 3 ≤ qK β n j := fun j a1 a2 => by
          rcases Nat.lt_or_ge q j with e | e
          · obtain rfl : j = q + 1 := by omega
            omega
          · exact h3 j a1 e
        have hE2 : zE own0 m u S0 H B0 c w t f b (wI 6115 (nI (q + 1 + 1)) (wI 6115 (nI (q + 1)) S)) := zE_wI hE1 (by decide)
        have eS2 : wI 6115 (nI (q + 1 + 1)) (wI 6115 (nI (q + 1)) S) = wI 6115 (nI (q + 2)) S := wI_wI _ _ _ _
        by_cases e12 : qK β n (q + 2) = 12
        · have c2 := z_sgT (d := d + 10) (K := 12) hX hE2 (rIe _ _ _) hq2 (by decide) e12
          obtain ⟨S', v, hB, hR⟩ := ih sc1 (q + 2) (by omega) hq2 (fun j a1 a2 => by
            rcases Nat.lt_or_ge j (q + 2) with e | e
            · exact h3' j a1 e
            · obtain rfl : j = q + 2 := by omega
              omega) (by omega) hL hs1
          have eP : psGl (qK β n) E (qL β n k) s at' (mm + 1) sc' (q + 1) = psGl (qK β n) E (qL β n k) s at' mm sc1 (q + 2 + 1) := by
            show (if qK β n (q + 1) = 3 then _ else _) = _
            rw [if_pos e3, hG]
            show (if qK β n (q + 1 + 1) = 12 then _ else _) = _
            rw [if_pos e12]
          rw [eP]
          refine ⟨S', v, fun lv q0 => zGlL_3 (d := d + 3) q0 (rIe _ _ _) (by omega) (show sA (wI 6115 (nI (q + 1)) (wI 6115 (nI q) S)) 67 (q + 1) = _ by rw [eS]; exact h67) (by omega) (rkd_1.mpr e3) (by rw [eS]; exact h68) (by omega) (by rw [eS]; exact g2 hm) (rIe _ _ _) (by omega) c2 (fun lv1 p0 => by rw [eS2]; exact hB lv1 p0), ?_⟩
          rcases hR with hR | ⟨r2, sc2, a1, a2, a3, a4, a5, a6, a7⟩
          · exact Or.inl hR
          · exact Or.inr ⟨r2, sc2, a1, a2, a3, a4, a5, by omega, a7⟩
        · have c2 := z_sgF (d := d + 10) (K := 12) hX hE2 (rIe _ _ _) hq2 (by decide) e12
          have eP : psGl (qK β n) E (qL β n k) s at' (mm + 1) sc' (q + 1) = ln (qK β n) (qL β n k) (q + 2) [] sc1 at' := by
            show (if qK β n (q + 1) = 3 then _ else _) = _
            rw [if_pos e3, hG]
            show (if qK β n (q + 1 + 1) = 12 then _ else _) = _
            rw [if_neg e12]
          rw [eP]
          exact ⟨_, nI 1, fun lv q0 => zGlL_4 (d := d + 3) q0 (rIe _ _ _) (by omega) (show sA (wI 6115 (nI (q + 1)) (wI 6115 (nI q) S)) 67 (q + 1) = _ by rw [eS]; exact h67) (by omega) (rkd_1.mpr e3) (by rw [eS]; exact h68) (by omega) (by rw [eS]; exact g2 hm) (rIe _ _ _) (by omega) c2, Or.inr ⟨q + 2, sc1, rfl, rfl, eS2, hs1, hL, by omega, h3'⟩⟩
    · have h67 : sA (wI 6115 (nI (q + 1)) S) 67 (q + 1) = nI (rkd (qK β n (q + 1))) := t1
      refine ⟨_, nI 0, fun lv q0 => zGlL_1 (d := d + 3) q0 (rIe _ _ _) (by omega) (show sA (wI 6115 (nI (q + 1)) (wI 6115 (nI q) S)) 67 (q + 1) = _ by rw [eS]; exact h67) (by omega) (fun e => e3 (rkd_1.mp e)) (by rw [eS]; exact b1), Or.inl ⟨?_, rfl, b2⟩⟩
      unfold psGl
      rw [if_neg e3]
theorem z_glb {dp ind tr af k e : Nat} {opn : Nat → Nat} {lp : LpT} {sc : SCs} {at' : List Nat} (hX : zX β n V own0 m k1 S0) (hE : eqR E) (h : zIs β n E V T own0 m u k1 S0 H B0 W 0 opn dp ind s lp tr sc at' X af c w t b k S) (hK : qK β n k = 53) : ∃ S1 v, Ans (e + 13) 304 [.ref 61] S (some (.int v)) S1 ∧ zLn β n E V T own0 m u S0 H B0 W lp sc at' X S c w t b k (if s = 0 then .inl (qL β n k) else psGl (qK β n) E (qL β n k) s at' 6000 sc (k + 1)) v S1 := by
  obtain ⟨h0, ⟨r1, r2, r3, r4⟩, hls, hK1, hI, hx1, hx2, hx3⟩ := id h
  obtain ⟨h1, h2, h3, h4, h5, h6, h7, h8, h9, h10, h11, h12, h13⟩ := id h0
  obtain ⟨⟨c01, c02, c03, c04, c05⟩, ⟨c11, c12⟩, -, -, -, -, -, -, -, ⟨ls, os, aa, bb, pm, ch, qq, U, s1, s2, s3, ⟨s4, s5, s6⟩, s7, s8, s9⟩, c10⟩ := id h4
  have hk1 := hX.2.1
  obtain ⟨w1, w2⟩ := z_word (K := 13) hX h1 h7 hK (by decide)
  have ml : ∀ {v' : Int32} {Sf : cS}, Bod (e + 12) 304 0 [(0, .ref 61)] [] S (some (.int v')) Sf → Ans (e + 13) 304 [.ref 61] S (some (.int v')) Sf := fun p => Ans.of (by rw [ml_304]; exact Nat.le_of_ble_eq_true rfl) p
  have ml3 : ∀ {v' : Int32} {Sf : cS}, Bod (e + 11) 330 0 [(0, .ref 61)] [] S (some (.int v')) Sf → Ans (e + 12) 330 [.ref 61] S (some (.int v')) Sf := fun p => Ans.of (by rw [ml_330]; exact Nat.le_of_ble_eq_true rfl) p
  by_cases hs : s = 0
  · obtain ⟨b1, b2⟩ := z_bad (d := e + 9) (j := k) hX h1 h2 h3 h7 h9 h10 h11
    rw [if_pos hs]
    exact ⟨_, nI 0, ml (zSi_15 (d := e + 4) h2 (by omega) w1 (by decide) rfl w2 (by decide) rfl (ml3 (zGl_2 (d := e + 3) c11 (by omega) (c10.mp hs) b1))), Or.inl ⟨rfl, rfl, b2⟩⟩
  have hx0 : X 1 ≠ 0 := fun q => hs (c10.mpr q)
  obtain ⟨⟨f1, f2, f3, f4, f5, f6, f7, f8⟩, ⟨f9, f10, f11, f12⟩, f13⟩ := s9 (X 1) (by omega) (Nat.le_refl _)
  rw [if_pos rfl] at f5
  rw [s2] at f13
  obtain ⟨S', v, hB, hR⟩ := glb_L (d := e) (k := k) (at' := at') hX hE h1 h3 h9 h10 h11 c11 (by omega) f3 f1 f7 f4 (by omega) h6 f13 6000 sc k (Nat.le_refl _) h7 (fun j j1 j2 => by
    obtain rfl : j = k := by omega
    omega) (by
    have := (rgn_S (s7 (by omega) hK1 (by omega)) (Or.inl (by omega))).1
    omega) (scL_refl E sc) rfl
  rw [if_neg hs]
  have eS : wI 6115 (nI k) S = S := wI_same h2
  rw [eS] at hB
  rcases hR with ⟨a1, a2, a3⟩ | ⟨r, sc2, a1, a2, a3, a4, a5, a6, a7⟩
  · rw [a2] at hB
    exact ⟨S', nI 0, ml (zSi_15 (d := e + 4) h2 (by omega) w1 (by decide) rfl w2 (by decide) rfl (ml3 (zGl_1 (d := e + 3) c11 (by omega) hx0 hB))), Or.inl ⟨a1, rfl, a3⟩⟩
  · rw [a2, a3] at hB
    have kxa : kX m S (wI 6115 (nI r) S) := kX_wI (Or.inl rfl)
    have z0 : zO β n V (zPT (qK β n) (qI β n) V T) (agT T sc.1) own0 m u S0 H B0 X (X 2 - 1) (wI 6115 (nI r) S) c w t (sc.1.length - 1) b r [] (sc.1.length - 1) (wI 6115 (nI r) S) := zO_nil (zE_wI h1 (by decide)) (rIe _ _ _) ((rIn _ _ (by decide)).trans h3)
    exact ⟨_, nI 1, ml (zSi_14 (d := e + 4) h2 (by omega) w1 (by decide) rfl w2 (by decide) rfl (ml3 (zGl_1 (d := e + 3) c11 (by omega) hx0 hB))), Or.inr ⟨r, [], sc2, a1, rfl, zH_X h0 kxa ⟨kxa, fun _ _ _ _ _ => kW_wI _ _ _ _ _⟩ z0 (fun o ho => by cases ho) (by show 0 + 2 ≤ _; omega) (Nat.zero_le _) (Nat.zero_le _) a7 a6 a4 a5⟩⟩
end
