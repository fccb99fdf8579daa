/-! BINDING in the class: names behind a target, a sign and = -/
theorem at_any {d : Nat} {S : cS} {p : Nat} {x : Int32} (hp : sI S 2307 = nI p) (hM : p ≤ 40960) : ∃ v, Ans (d + 1) 88 [.ref 23, .int x] S (some (.int v)) S := by
  by_cases hx : x < 0
  · refine ⟨nI 0, Ans.of (by rw [ml_88]; exact Nat.le_of_ble_eq_true rfl) ?_⟩
    refine Bod.go dc_88_0 rfl ?_
    refine Bod.ifT dc_88_1 rfl (if_pos hx) ?_
    refine Bod.ic 0 (by decide) dc_88_27 ?_
    exact Bod.retI dc_88_28 rt_88
  · obtain ⟨m, hm, rfl⟩ : ∃ m, m < 2 ^ 31 ∧ x = nI m := by
      have h0 : 0 ≤ x.toInt := by
        have := Int32.not_lt.mp hx
        have := Int32.le_iff_toInt_le.mp this
        exact this
      have h1 := x.toInt_lt
      refine ⟨x.toInt.toNat, by omega, ?_⟩
      apply Int32.toInt_inj.mp
      rw [nI_toInt (by omega)]
      omega
    by_cases hq : m < p
    · exact ⟨_, at_T hp hq hM⟩
    · exact ⟨_, at_F hp (by omega) hm⟩
theorem scB_2 {E : Nat → Nat → Bool} {s k : Nat} {sc : SCs} (hE : E k k = true) : scB E s k (scB E s k sc) = scB E s k sc := by
  by_cases hs : s = 0
  · unfold scB; rw [if_pos hs, if_pos hs]
  · cases hF : scF E sc s k with
    | some e =>
      have h1 : scB E s k sc = sc := by unfold scB; rw [if_neg hs, hF]
      rw [h1, h1]
    | none =>
      have h1 : scB E s k sc = scA s k 0 sc := by unfold scB; rw [if_neg hs, hF]
      rw [h1]
      have h2 : scF E (scA s k 0 sc) s k = some (s, k, 0) := by
        unfold scF at hF ⊢
        show List.find? _ (sc.2 ++ [(s, k, 0)]) = _
        rw [List.find?_append, hF, Option.none_or]
        have : (Nat.beq s s && E k k) = true := by rw [hE, Nat.beq_refl]; rfl
        simp only [List.find?_cons, this]
      unfold scB
      rw [if_neg hs, h2]
section
variable {A : Nat → Int32} {n z0 fb a0 s ab d : Nat} {S0 B : cS}
/-- a step with a name -/
theorem yE_A {a c f k t kn : Nat} {x : Int32} {sc : SCs} {at' : List Nat} {S : cS} (h : yG A n S0 z0 fb a0 s ab k sc at' a c f S) (ht : 44 ≤ t ∧ t ≤ 48) (hx : nmR (by1 A) n S kn x) (ha : a + 2 ≤ 40960) : ∃ S1, Ans (d + 2) 54 [.ref 23, .int (nI t), .int x] S (some (.int (nI a))) S1 ∧ yOK A n S0 z0 fb a0 s ab S a c f (k, [(t, [kn], 0, 0)], sc, at') S1 := by
  have hF : FrT [2307] [] [24] [] S (wI 2307 (nI (a + 2)) (wA 24 (a + 1) x (wA 24 a (nI t) S))) := FrT_wI (by decide) (FrT_wA (by decide) (FrT_wA (by decide) (FrT.refl _ _ _ _ _)))
  have e1 : lC (t, [kn], 0, 0) = 2 := lC_2 (by dsimp only; omega)
  have e2 : cnO (t, [kn], 0, 0) = 0 := by unfold cnO; exact if_neg (by dsimp only; omega)
  have e3 : fxO (t, [kn], 0, 0) = 0 := by unfold fxO; exact if_neg (by dsimp only; omega)
  have hc := h.2.2.2.2.2.2.2.2.2.2.2.2.2.1
  have hf := h.2.2.2.2.2.2.2.2.2.2.2.2.2.2.2.1
  obtain ⟨q, z, i1, i2, i3, i4, i5, i6⟩ := hx
  refine ⟨_, put2_ev (d := d) h.2.1.1 ha, yOK_e h (by dsimp only; omega) (hF.1 _ (by decide)) (hF.mono (by decide) (fun _ h => h) (by decide) (fun _ h => by cases h)) ⟨fun i hi => ?_, fun _ _ => ⟨rfl, rfl⟩, fun _ _ => ⟨rfl, rfl⟩⟩ (by rw [e1]; exact rIe _ _ _) (by rw [e2]; exact (hF.1 _ (by decide)).trans h.2.1.2.1) (by rw [e3]; exact (hF.1 _ (by decide)).trans h.2.1.2.2.1) (by rw [e2]; omega) (by rw [e1]; omega) (by rw [e3]; omega) (fun h => by rw [e3] at h; cases h) (fun z' hz' hz2' => ⟨fun _ => ?_, fun h => ?_, fun h => ?_, fun h => ?_, fun _ => ⟨q, ?_, i6, ?_⟩, fun h => ?_, fun h => ?_, fun h => ?_⟩)⟩
  · show upd (upd (sA S 24) a (nI t)) (a + 1) x i = _
    rw [upd_at, upd_at, if_neg (by omega), if_neg (by omega)]
  · show upd (upd (sA S 24) a (nI t)) (a + 1) x a = nI (tgC t)
    rw [upd_at, upd_at, if_neg (by omega), if_pos rfl, tgC_id (by omega)]
  rotate_left 3
  · obtain rfl : z = z' := nI_inj (by omega) (by omega) (i4.symm.trans hz')
    exact i3
  · show upd (upd (sA S 24) a (nI t)) (a + 1) x (a + 1) = nI q
    rw [upd_at, if_pos rfl, i1]
  all_goals (exfalso; dsimp only at h; omega)
/-- the name behind a target -/
theorem tname_T {a c f k0 : Nat} {r : Nat × Nat × List Op} {sc : SCs} {at' : List Nat} {S S1 : cS} (h : yOK A n S0 z0 fb a0 s ab S a c f (r.1, r.2.2, sc, at') S1) (hr : exs (qK (by1 A) n) s k0 = some r) (hg : sI S1 4403 = nI r.2.1) (hg3 : r.2.1 ≤ 3) (htp : r.2.1 ≠ 0 → sI S1 4404 = nI (a + wC r.2.2 - tl1 r.2.1)) : ∃ rb, Ans (d + 9) 111 [.ref 43] S1 (some (.int rb)) S1 ∧ (r.2.1 = 1 ∨ r.2.1 = 3 → nmR (by1 A) n S1 (r.1 - 1) rb) := by
  have htop := h.1.2.1.1
  have htopM : a + wC r.2.2 ≤ 40960 := h.1.2.2.2.2.2.2.2.2.2.2.2.2.2.2.1
  obtain ⟨z, c', i1, i2, i3, i4, i5⟩ := h.2.1
  dsimp only at htop i5
  by_cases h0 : r.2.1 = 0
  · obtain ⟨v, hv⟩ := at_any (d := d + 7) (x := sI S1 4404 + nI 1) htop htopM
    exact ⟨v, Ans.of (by rw [ml_111]; exact Nat.le_of_ble_eq_true rfl) (Bod.lv (by rfl) (cNmr_1 (d := d) hg (by omega) (by omega) hv)), fun h => by omega⟩
  have ht := htp h0
  obtain ⟨os', o, ho, hc⟩ := ex_tg hr h0
  rcases hc with ⟨e1, e2, e3, e4, e5⟩ | ⟨e1, e3⟩ | ⟨e1, e3, e5⟩
  · subst e2
    rw [List.nil_append] at ho
    have el : lC o = 3 := by rw [e3]; rfl
    have e0 : wC r.2.2 = 3 := by rw [ho]; show lC o + 0 = 3; omega
    have et : tl1 r.2.1 = 3 := by rw [e1]; rfl
    have ht1 : sI S1 4404 + nI 2 = nI (a + 2) := by rw [ht, e0, et, nI_add]; exact congrArg nI (by omega)
    have hv := at_T (d := d + 7) (q := a + 2) htop (by omega) htopM
    rw [← ht1] at hv
    rw [ho] at i5
    obtain ⟨_, q, j1, j2, j3, _⟩ := i5.1.2.2.1 (by rw [e3]; exact ⟨(by dsimp only; omega), (by dsimp only; omega)⟩)
    refine ⟨_, Ans.of (by rw [ml_111]; exact Nat.le_of_ble_eq_true rfl) (Bod.lv (by rfl) (cNmr_2 (d := d) hg (by omega) e1 hv)), fun _ => ⟨q, z, j3, Nat.zero_le _, j1, i1, i2, ?_⟩⟩
    rw [e3] at j2
    rw [e4]
    exact j2
  · obtain ⟨v, hv⟩ := at_any (d := d + 7) (x := sI S1 4404 + nI 1) htop htopM
    exact ⟨v, Ans.of (by rw [ml_111]; exact Nat.le_of_ble_eq_true rfl) (Bod.lv (by rfl) (cNmr_1 (d := d) hg (by omega) (by omega) hv)), fun h => by omega⟩
  · have el : lC o = 2 := by rw [e3]; rfl
    have e0 : wC r.2.2 = wC os' + 2 := by rw [ho, wC_app]; show _ + (lC o + 0) = _; omega
    have et : tl1 r.2.1 = 2 := by rw [e1]; rfl
    have ht1 : sI S1 4404 + nI 1 = nI (a + wC os' + 1) := by rw [ht, e0, et, nI_add]; exact congrArg nI (by omega)
    have hv := at_T (d := d + 7) (q := a + wC os' + 1) htop (by omega) htopM
    rw [← ht1] at hv
    rw [ho] at i5
    obtain ⟨q, j1, j2, j3⟩ := ((lsC_app os' a).mp i5).2.1.2.2.2.2.1 (by rw [e3]; exact ⟨(by dsimp only; omega), (by dsimp only; omega)⟩)
    refine ⟨_, Ans.of (by rw [ml_111]; exact Nat.le_of_ble_eq_true rfl) (Bod.lv (by rfl) (cNmr_1 (d := d) hg (by omega) (by omega) hv)), fun _ => ⟨q, z, j3, Nat.zero_le _, j1, i1, i2, ?_⟩⟩
    rw [e3] at j2
    exact j2
end
