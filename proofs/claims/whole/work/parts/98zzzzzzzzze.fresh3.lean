/-! THE REFERENCE: fresh, whole -/
section
variable {Q : Nat → Prop} {β e5 e6 : Nat → Nat} {F : Nat → Nat → Nat → Prop} {D : List Nat} {Sc Sr S S1 W X : cS} {g0 g1 nn k r t p d u : Nat} {kd : Int32}
theorem fr_52 (hr : r < 1500) (ht : sQ S 86 r = some t) (ok : tOk S r t) {lv : sm_L} (q0 : sm_get lv 0 = some (.ref 61)) (q1 : sm_get lv 1 = some (.int kd)) (q2 : sm_get lv 2 = some (.int (nI r))) : Bod (d + 8) 364 52 lv [] S (some (.int (nI r))) (rsT r t kd S) := by
  obtain ⟨t1, _, N, t3⟩ := tOk_t ok
  exact rFsT_1 (zg := N) q0 q1 q2 (by omega) hr t1 ht t3
theorem FrL_wk {L2 : List Nat} (h2 : ∀ a, a ∈ L2 → a ∈ [87, 89, 90]) (h : FrL [6147] L2 [] S W) (hg : ∀ g, sV S 6103 = .ref g → g ∉ [87, 89, 90]) (hn : r_nm S) (hw : r_wk S) : nmL W = nmL S ∧ wkL W = wkL S ∧ r_nm W ∧ r_wk W := by
  obtain ⟨nn, g3, g4, gn, n1, n2, n3, n4, n5, n6, n7, n8, n9⟩ := hn
  obtain ⟨sp, c, w1, w2, w3, w4, w5, w6⟩ := hw
  have eI : ∀ i, i ≠ 6147 → sI W i = sI S i := fun i hi => h.I (fun c => hi (List.mem_singleton.mp c))
  have eA : ∀ a, a ∉ [87, 89, 90] → sA W a = sA S a := fun a ha => h.A (fun c => ha (h2 a c))
  have eL : sL W = sL S := funext fun a => h.2.1 a List.not_mem_nil
  have eV : sV W = sV S := h.2.2.1
  have e3 : sA W g3 = sA S g3 := eA g3 (hg g3 n2)
  have rr : ∀ i, r_ref W i = r_ref S i := fun i => by unfold r_ref; rw [eV]
  have r3 : r_ref S 6103 = g3 := r_ref_e n2
  refine ⟨?_, ?_, ⟨nn, g3, g4, gn, by rw [eI 6102 (by omega)]; exact n1, by rw [eV]; exact n2, by rw [eV]; exact n3, isK_S h.2.2.2.2.1 n4, isK_S h.2.2.2.2.1 n5, n6, n7, n8, fun i hi => by rw [e3, eL]; exact n9 i hi⟩, ⟨sp, c, by rw [eI 6151 (by omega)]; exact w1, w2, fun i hi => by rw [eA 91 (by decide), eL]; exact w3 i hi, by rw [eI 6159 (by omega)]; exact w4, w5, fun i hi => by rw [eA 96 (by decide)]; exact w6 i hi⟩⟩
  · unfold nmL
    rw [rr, rr, r3, e3, eL, eI 6102 (by omega)]
  · unfold wkL
    rw [eA 91 (by decide), eA 96 (by decide), eL, eI 6151 (by omega), eI 6159 (by omega)]
theorem fresh_T (h : HR Q β F D Sc Sr g0 g1 nn) (hP : Hp no_e e5 e6 Sc) (hd : ∀ k, lv Sc k → 0 < heldBy Sc k + e5 k + e6 k) (hR : RtQ β e5 e6 Sc Sr) (hnm : r_nm Sr) (hwk : r_wk Sr) (hg3 : ∀ g, sV Sr 6103 = .ref g → g ∉ [87, 89, 90]) (hrt : ∀ k, k < 1500 → rRoot Sr k ≤ 1000000) (hu : u < 1500) (h47 : sI Sr 6147 = nI u) : (nLive Sc = 1500 ∧ ∃ S1 D', Ans (d + 10) 364 [.ref 61, .int kd] Sr (some (.int (Int32.ofInt (-1)))) (wI 6164 (nI 8) S1) ∧ HR Q β F D' Sc S1 g0 g1 nn ∧ hpF Q Sr S1 ∧ ∃ u', u' < 1500 ∧ sI S1 6147 = nI u') ∨ (nLive Sc < 1500 ∧ ∃ r t S1 D', r < 1500 ∧ sA S1 87 r = 0 ∧ sQ S1 86 r = some t ∧ tOk S1 r t ∧ HR Q β F D' Sc S1 g0 g1 nn ∧ hpF Q Sr S1 ∧ (∃ u', u' < 1500 ∧ sI S1 6147 = nI u') ∧ Ans (d + 10) 364 [.ref 61, .int kd] Sr (some (.int (nI r))) (rsT r t kd S1)) := by
  have h0 : sA Sc 3 0 = 0 := by
    obtain ⟨_, _, _, _, _, _, _, _, _, _, q⟩ := hP.2.1
    exact q
  have hnl : nLive Sc ≤ 1500 := by
    obtain ⟨p, f, _, _, _, q4, q5, _⟩ := hP.2.1
    omega
  have fl : ∀ S : cS, HR Q β F D Sc S g0 g1 nn → ∀ k, k < 1500 → ∃ e, e < 2 ^ 20 ∧ sA S 87 k = nI e := fun S h k hk => by
    rcases h.2.2.2.2.2.2.2.2.2.2 k hk with e | e
    · exact ⟨0, by omega, e⟩
    · exact ⟨1, by omega, e⟩
  have hml : ∀ (lv : sm_L), Bod (d + 9) 364 0 [(0, .ref 61), (1, .int kd)] [] Sr none Sr → True := fun _ _ => True.intro
  -- a place r at S1: the rest
  have fin : ∀ (S1 : cS) (D' : List Nat) (r : Nat), HR Q β F D' Sc S1 g0 g1 nn → hpF Q Sr S1 → (∃ u', u' < 1500 ∧ sI S1 6147 = nI u') → r < 1500 → sA S1 87 r = 0 → (∀ (t : Nat) (Sf : cS) (v : Option Value), 108 ≤ t → sQ S1 86 r = some t → (∀ lv1 : sm_L, sm_get lv1 0 = some (.ref 61) → sm_get lv1 1 = some (.int kd) → sm_get lv1 2 = some (.int (nI r)) → Bod (d + 9) 364 52 lv1 [] S1 v Sf) → Bod (d + 9) 364 0 [(0, .ref 61), (1, .int kd)] [] Sr v Sf) → (∀ (Sf : cS) (v : Option Value), sQ S1 86 r = none → (∀ lv1 : sm_L, sm_get lv1 0 = some (.ref 61) → sm_get lv1 1 = some (.int kd) → sm_get lv1 2 = some (.int (nI r)) → Bod (d + 9) 364 39 lv1 [] S1 v Sf) → Bod (d + 9) 364 0 [(0, .ref 61), (1, .int kd)] [] Sr v Sf) → ∃ r t S1 D', r < 1500 ∧ sA S1 87 r = 0 ∧ sQ S1 86 r = some t ∧ tOk S1 r t ∧ HR Q β F D' Sc S1 g0 g1 nn ∧ hpF Q Sr S1 ∧ (∃ u', u' < 1500 ∧ sI S1 6147 = nI u') ∧ Ans (d + 10) 364 [.ref 61, .int kd] Sr (some (.int (nI r))) (rsT r t kd S1) := by
    intro S1 D' r hH hf hu' hr h87 b1 b2
    cases hq : sQ S1 86 r with
    | some t =>
      have ok := hH.wf.1 r t hr hq
      exact ⟨r, t, S1, D', hr, h87, hq, ok, hH, hf, hu', Ans.of (by rw [ml_364]; exact Nat.le_of_ble_eq_true rfl) (Bod.lv (by rfl) (b1 t _ _ (tOk_t ok).1 hq (fun lv1 q0 q1 q2 => fr_52 (d := d + 1) hr hq ok q0 q1 q2)))⟩
    | none =>
      have hl : r < 1500 ∧ 87 < 108 + (sS S1).length := ⟨hr, by omega⟩
      obtain ⟨u', u1, u2⟩ := hu'
      exact ⟨r, 108 + (sS S1).length, nwT r S1, D', hr, by rw [nwT_A r S1 hl.2]; exact h87, nwT_k, nwT_ok r S1, HR_nwN hH hr hq, hf.trans (nwT_hpF hH.wf hr hq), ⟨u', u1, by rw [nwT_I r S1 (by omega)]; exact u2⟩, Ans.of (by rw [ml_364]; exact Nat.le_of_ble_eq_true rfl) (Bod.lv (by rfl) (b2 _ _ hq (fun lv1 q0 q1 q2 => rFsN (d := d + 1) q0 q1 q2 hr (fr_52 (d := d + 1) (S := nwT r S1) hr nwT_k (nwT_ok r S1) q0 q1 q2))))⟩
  obtain ⟨W1, x, c1, f1, u1, hx⟩ := free_T (d := d) hu h47 (fl Sr h)
  have H1 : HR Q β F D Sc W1 g0 g1 nn := HR_L (L2 := []) (fun a ha => by cases ha) f1 h (Or.inl ⟨rfl, f1.A List.not_mem_nil⟩)
  have F1 : hpF Q Sr W1 := hpF_L (L2 := []) (fun a ha => by cases ha) f1
  rcases hx with ⟨ex, hall⟩ | ⟨r, hr, ex, hr0⟩
  · subst ex
    obtain ⟨n1, n2, n3, n4⟩ := FrL_wk (L2 := []) (fun a ha => by cases ha) f1 hg3 hnm hwk
    have hR1 : RtQ β e5 e6 Sc W1 := by
      unfold RtQ
      rw [n1, n2]
      exact hR
    have rW : r_W W1 := ⟨fun p hp h0 => (H1.2.2.2.2.2.2.2.1 p hp h0).1, n3, n4⟩
    have rS : rSm W1 := ⟨fun p hp h0 => (H1.2.2.2.2.2.2.2.1 p hp h0).2, fun k hk => by
      have := hrt k hk
      unfold rRoot at this ⊢
      rw [n1, n2]
      exact this⟩
    obtain ⟨W2, c2, f2, e87⟩ := settle_ev (d := d + 5) rW (HR_dead H1 hP hd hR1) rS
    have f2' : FrL [6147] [87, 89, 90] [] W1 W2 := (FrL_Fr f2).mono (fun _ c => by cases c) (fun _ c => c) (fun _ c => c)
    have H2 : HR Q β F [] Sc W2 g0 g1 nn := HR_L (fun a ha => ha) f2' H1 (Or.inr ⟨rfl, e87⟩)
    have F2 : hpF Q Sr W2 := F1.trans (hpF_L (fun a ha => ha) f2')
    obtain ⟨u', u1', u2'⟩ := u1
    have h47' : sI W2 6147 = nI u' := by rw [f2.I List.not_mem_nil]; exact u2'
    have fl2 : ∀ k, k < 1500 → ∃ e, e < 2 ^ 20 ∧ sA W2 87 k = nI e := fun k hk => by
      rcases H2.2.2.2.2.2.2.2.2.2.2 k hk with e | e
      · exact ⟨0, by omega, e⟩
      · exact ⟨1, by omega, e⟩
    obtain ⟨W3, y, c3, f3, u3, hy⟩ := free_T (d := d) u1' h47' fl2
    have H3 : HR Q β F [] Sc W3 g0 g1 nn := HR_L (L2 := []) (fun a ha => by cases ha) f3 H2 (Or.inl ⟨rfl, f3.A List.not_mem_nil⟩)
    have F3 : hpF Q Sr W3 := F2.trans (hpF_L (L2 := []) (fun a ha => by cases ha) f3)
    rcases hy with ⟨ey, hall2⟩ | ⟨r, hr, ey, hr0⟩
    · subst ey
      refine Or.inl ⟨?_, W3, [], Ans.of (by rw [ml_364]; exact Nat.le_of_ble_eq_true rfl) (Bod.lv (by rfl) (rFs_5 (d := d + 1) c1 c2 c3)), H3, F3, u3⟩
      rcases Nat.lt_or_ge (nLive Sc) 1500 with c | c
      · exact absurd hall2 (HR_room H2 h0 c)
      · omega
    · subst ey
      refine Or.inr ⟨?_, fin W3 [] r H3 F3 u3 hr (by rw [f3.A List.not_mem_nil]; exact hr0) (fun t Sf v ag hq hB => rFs_3 (d := d + 1) (zg := 0) c1 c2 hr c3 ag hq hB) (fun Sf v hq hB => rFs_4 (d := d + 1) c1 c2 hr c3 hq hB)⟩
      rcases Nat.lt_or_ge (nLive Sc) 1500 with c | c
      · exact c
      · exact absurd hr0 (HR_full H2 h0 (by omega) r hr)
  · subst ex
    refine Or.inr ⟨?_, fin W1 D r H1 F1 u1 hr (by rw [f1.A List.not_mem_nil]; exact hr0) (fun t Sf v ag hq hB => rFs_1 (d := d + 1) (zg := 0) hr c1 ag hq hB) (fun Sf v hq hB => rFs_2 (d := d + 1) hr c1 hq hB)⟩
    rcases Nat.lt_or_ge (nLive Sc) 1500 with c | c
    · exact c
    · exact absurd hr0 (HR_full h h0 (by omega) r hr)
end
