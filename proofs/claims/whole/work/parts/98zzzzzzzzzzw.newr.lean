/-! BOTH MACHINES: a new object, the reference's side -/
section
variable {P : Nat → Prop} {T : cS} {gT : Nat} {Q : Nat → Prop} {β β' : Nat → Nat} {F : Nat → Nat → Nat → Prop} {loc par : Nat → Nat → Nat} {ty : Nat → Nat × Nat} {G : Nat → Nat → Nat → Nat × Nat × LL → Prop} {D D' K : List Nat} {z nn g0 g1 g3 g4 g5 gn d v o i k n t t0 r0 w : Nat} {tq : Nat → Nat × Nat} {C r : List Lv} {x : Lv} {S S' S1 X W Sc Sr : cS} {g : Nat → Nat} {l2 : LL} {hi lo kh kl : Int64} {kd : Int32}
/-- a thing that was just made -/
theorem rsT_f (hr : r0 < 1500) (ht : sQ S 86 r0 = some t) (ok : tOk S r0 t) : tF r0 t S (rsT r0 t kd S) ∧ tOk (rsT r0 t kd S) r0 t ∧ sI (rsT r0 t kd S) (100 * t + 0) = kd ∧ sI (rsT r0 t kd S) (100 * t + 1) = nI 0 ∧ sI (rsT r0 t kd S) (100 * t + 11) = Int32.ofInt (-1) ∧ sI (rsT r0 t kd S) (100 * t + 12) = Int32.ofInt (-1) ∧ sA (rsT r0 t kd S) 87 r0 = nI 1 ∧ (∀ f, f ≠ 8 → sV (rsT r0 t kd S) (100 * t + f) = sV S (100 * t + f)) ∧ sQ (rsT r0 t kd S) = sQ S ∧ sS (rsT r0 t kd S) = sS S ∧ (∀ a, a ≠ 87 → sA (rsT r0 t kd S) a = sA S a) ∧ sL (rsT r0 t kd S) = sL S ∧ ∀ i, i < 10800 → sI (rsT r0 t kd S) i = sI S i := by
  obtain ⟨v2, v3, v4, v5, v6, v7, n, m, c1, c2, c3, c4⟩ := ok
  have h108 : 108 ≤ t := c1.2.1
  have eI : ∀ i, i ≠ 100 * t + 0 → i ≠ 100 * t + 1 → i ≠ 100 * t + 11 → i ≠ 100 * t + 12 → sI (rsT r0 t kd S) i = sI S i := fun i h0 h1 h2 h3 => by
    unfold rsT
    rw [rI, if_neg h3, rI, if_neg h2]
    show sI (wI (100 * t + 1) (nI 0) (wI (100 * t + 0) kd _)) i = _
    rw [rI, if_neg h1, rI, if_neg h0]
    rfl
  have e0 : sI (rsT r0 t kd S) (100 * t + 0) = kd := by
    unfold rsT
    rw [rI, if_neg (by omega), rI, if_neg (by omega)]
    show sI (wI (100 * t + 1) (nI 0) (wI (100 * t + 0) kd _)) (100 * t + 0) = _
    rw [rI, if_neg (by omega), rIe]
  have e1 : sI (rsT r0 t kd S) (100 * t + 1) = nI 0 := by
    unfold rsT
    rw [rI, if_neg (by omega), rI, if_neg (by omega)]
    show sI (wI (100 * t + 1) (nI 0) (wI (100 * t + 0) kd _)) (100 * t + 1) = _
    rw [rIe]
  have e11 : sI (rsT r0 t kd S) (100 * t + 11) = Int32.ofInt (-1) := by
    unfold rsT
    rw [rI, if_neg (by omega), rIe]
  have e12 : sI (rsT r0 t kd S) (100 * t + 12) = Int32.ofInt (-1) := by
    unfold rsT
    rw [rIe]
  have eV : ∀ i, i ≠ 100 * t + 8 → sV (rsT r0 t kd S) i = sV S i := fun i hi => by
    show (if i = 100 * t + 8 then _ else sV S i) = _
    rw [if_neg hi]
  have eA : ∀ a, a ≠ 87 → sA (rsT r0 t kd S) a = sA S a := fun a ha => by
    show (if a = 87 then _ else sA S a) = _
    rw [if_neg ha]
  have e87 : ∀ p, sA (rsT r0 t kd S) 87 p = if p = r0 then nI 1 else sA S 87 p := fun p => by
    show (if 87 = 87 then va_up (sA S 87) r0 (vp_nar .boolean (nI 1)) else sA S 87) p = _
    rw [if_pos rfl]
    rfl
  have tR : ∀ {p}, p = r0 → tRef (rsT r0 t kd S) p t v2 v3 v4 v5 v6 v7 n m := fun {p} hp => by
    subst hp
    obtain ⟨t1, t2, t3, t4, t5, t6, t7, t8, t9, t10⟩ := c1
    exact ⟨t1, t2, t3, by rw [eV _ (by omega)]; exact t4, by rw [eV _ (by omega)]; exact t5, by rw [eV _ (by omega)]; exact t6, by rw [eV _ (by omega)]; exact t7, by rw [eV _ (by omega)]; exact t8, by rw [eV _ (by omega)]; exact t9, t10⟩
  have hw : tOk (rsT r0 t kd S) r0 t := ⟨v2, v3, v4, v5, v6, v7, n, m, tR rfl, c2, c3, fun j hj => by
    rw [eA v3 (by have := c1.2.2.2.2.2.2.2.2.2.2.2.2.2.2.2.2.2.1; have := c1.2.2.2.2.2.2.2.2.2.2.2.2.2.2.2.2.2.2.1; omega)]
    exact c4 j hj⟩
  refine ⟨⟨rfl, rfl, ⟨[], (List.append_nil _).symm⟩, fun i hi => ⟨eI i (hi 0 (by omega)) (hi 1 (by omega)) (hi 11 (by omega)) (hi 12 (by omega)), eV i (hi 8 (by omega))⟩, fun a ha _ _ => ⟨eA a ha, rfl⟩, rfl, fun p hp => by rw [e87, if_neg hp], fun f v hf hf2 hv => Or.inl (by rw [← eV _ (by omega)]; exact hv), ?_, ?_⟩, hw, e0, e1, e11, e12, by rw [e87, if_pos rfl], fun f hf => eV _ (by omega), rfl, rfl, eA, rfl, fun i hi => eI i (by omega) (by omega) (by omega) (by omega)⟩
  · have a := tc_ref c1
    have b := tc_ref (tR rfl)
    rw [b.1, a.1]
    show mu S + _ = _
    rfl
  · have a := tc_ref c1
    have b := tc_ref (tR rfl)
    rw [b.2, a.2]
    show (sS S).length + _ = _
    rfl
/-- the reference behind its heap's own work -/
theorem XR_hp (h : XR P T gT Q β F D z nn g0 g1 g3 g4 g5 gn tq (x :: r) Sc Sr) (hHR : HR Q β F D' Sc W g0 g1 nn) (hF : hpF Q Sr W) (hu : ∃ u, u < 1500 ∧ sI W 6147 = nI u) : XR P T gT Q β F D' z nn g0 g1 g3 g4 g5 gn tq (x :: r) Sc W := by
  obtain ⟨a1, a2, a3, a4, a5, a6, a7, a8, a9, a10, a11⟩ := h
  obtain ⟨w1, ⟨w2, w2'⟩, ⟨l', w3⟩, w4, w5, w6, w7, w8, w9, w10⟩ := hF
  have q108 : ∀ a, a < 108 → Q a := a1.wf.2.2.2.2.1
  have hgq := a3.2.2.2.2.2.2.1
  have hgs := a3.2.2.2.2.2.2.2.1
  have nin : ∀ {g}, nG g → g ∉ [87, 89, 90] := fun {g} hg => by
    simp only [List.mem_cons, List.not_mem_nil, or_false]
    unfold nG at hg
    omega
  have eA : ∀ a, a < 108 → a ∉ [87, 89, 90] → sA W a = sA Sr a := fun a ha hn => w6 a (q108 a ha) hn
  have eL : ∀ a, a < 108 → sL W a = sL Sr a := fun a ha => w7 a (q108 a ha)
  have hN : tnE Sr W g0 g1 := ⟨w6 g0 hgq.1 (nin hgs.1), w6 g1 hgq.2.1 (nin hgs.2.1), eL 17 (by omega), eL 18 (by omega)⟩
  refine ⟨hHR, NMw_E a2 rfl rfl rfl rfl hN (w6 g3 hgq.2.2.1 (nin hgs.2.2.1)) (w7 g4 hgq.2.2.2.1) (w7 g5 hgq.2.2.2.2), ?_, stkR_s a4 rfl rfl (eA 91 (by omega) (by decide)) (eL 92 (by omega)) (eL 93 (by omega)), rCal_E a5 (w2 94 (by omega)) (fun a ha => eA a (by simp only [List.mem_cons, List.not_mem_nil, or_false] at ha; omega) (by simp only [List.mem_cons, List.not_mem_nil, or_false] at ha ⊢; omega)), ⟨by rw [w4 _ (by omega) (by omega)]; exact a6.1, by rw [w4 _ (by omega) (by omega)]; exact a6.2.1, by rw [w4 _ (by omega) (by omega)]; exact a6.2.2⟩, triX_E a7 (fun a ha => eA a (by simp only [List.mem_cons, List.not_mem_nil, or_false] at ha; omega) (by simp only [List.mem_cons, List.not_mem_nil, or_false] at ha ⊢; omega)), lnC_E a8 rfl rfl (eA 98 (by omega) (by decide)), ?_, ?_, a11⟩
  · obtain ⟨b1, ⟨b2, b3, b4, b5, b6⟩, ⟨c0, c1, c3, c4, c5⟩, hr⟩ := a3
    exact ⟨by rw [w4 _ (by omega) (by omega)]; exact b1, ⟨by rw [w5 _ (by omega)]; exact b2, by rw [w5 _ (by omega)]; exact b3, by rw [w5 _ (by omega)]; exact b4, by rw [w5 _ (by omega)]; exact b5, by rw [w5 _ (by omega)]; exact b6⟩, ⟨isK_A w3 c0, isK_A w3 c1, isK_A w3 c3, isK_A w3 c4, isK_A w3 c5⟩, hr⟩
  · obtain ⟨⟨b1, b2⟩, ⟨o, o1, o2, o3, o4⟩, _⟩ := a9
    exact ⟨⟨by rw [w4 _ (by omega) (by omega)]; exact b1, by rw [w4 _ (by omega) (by omega)]; exact b2⟩, ⟨o, o1, o2, by rw [w4 _ (by omega) (by omega)]; exact o3, fun i hi => by rw [eA 106 (by omega) (by decide)]; exact o4 i hi⟩, hu⟩
  · obtain ⟨b1, b2, b3, ⟨l, b4⟩, b5, b6, b7, b8, b9⟩ := a10
    refine ⟨w1.trans b1, fun i hi => (w4 i (by omega) (by omega)).trans (b2 i hi), fun i hi hn => (w5 i hi).trans (b3 i hi hn), ⟨l ++ l', by rw [w3, b4, List.append_assoc]⟩, fun a ha => ?_, fun b h1 h2 => (w2 b h1).trans (b6 b h1 h2), fun m zm hm hs j hj => ?_, by omega, by omega⟩
    · obtain ⟨p1, p2⟩ := a11.1 a ha
      exact ⟨(w6 a p1 (by simp only [List.mem_cons, List.not_mem_nil, or_false]; omega)).trans (b5 a ha).1, (w7 a p1).trans (b5 a ha).2⟩
    · have hlt := (List.getElem?_eq_some_iff.mp hs).1
      have := w8 m zm hm (by rw [b4, List.getElem?_append_left hlt]; exact hs) j hj
      exact ⟨this.1.trans (b7 m zm hm hs j hj).1, this.2.trans (b7 m zm hm hs j hj).2⟩
/-- the reference makes a thing, where the class makes an object -/
theorem new_R (h : CI F loc par ty G tq (x :: r) S) (hX : XR P T gT Q β F D z nn g0 g1 g3 g4 g5 gn tq (x :: r) S Sr) : (nLive S = 1500 → ∃ S1 D', Ans (d + 10) 364 [.ref 61, .int kd] Sr (some (.int (Int32.ofInt (-1)))) (wI 6164 (nI 8) S1) ∧ XR P T gT Q β F D' z nn g0 g1 g3 g4 g5 gn tq (x :: r) S S1) ∧ (nLive S < 1500 → ∃ r0 t S1 D', r0 < 1500 ∧ sA S1 87 r0 = 0 ∧ sQ S1 86 r0 = some t ∧ tOk S1 r0 t ∧ XR P T gT Q β F D' z nn g0 g1 g3 g4 g5 gn tq (x :: r) S S1 ∧ Ans (d + 10) 364 [.ref 61, .int kd] Sr (some (.int (nI r0))) (rsT r0 t kd S1) ∧ (∀ p s, sQ Sr 86 p = some s → sQ S1 86 p = some s) ∧ ∃ l, sS S1 = sS Sr ++ l) := by
  obtain ⟨r1, r2, r3, r4, r5⟩ := XR_root h hX
  obtain ⟨_, _, u, u1, u2⟩ := hX.2.2.2.2.2.2.2.2.1
  have hm := h.1
  rcases fresh_T (d := d) (kd := kd) hX.1 hm.1 (fun k hk => by have := hm.2.1 k hk (by have := hk.1; omega); omega) r1 r2 r3 r4 r5 u1 u2 with ⟨n1, S1, D', b1, b2, b3, b4⟩ | ⟨n1, r0, t, S1, D', b1, b2, b3, b4, b5, b6, b7, b8⟩
  · exact ⟨fun _ => ⟨S1, D', b1, XR_hp hX b2 b3 b4⟩, fun c => by omega⟩
  · exact ⟨fun c => by omega, fun _ => ⟨r0, t, S1, D', b1, b2, b3, b4, XR_hp hX b5 b6 b7, b8, b6.2.1.2, b6.2.2.1⟩⟩
theorem NMw_b (h : NMw F β Sc Sr z nn g0 g1 g3 g4 g5) (hL : nmLv Sc) (hb : ∀ j, lv Sc j → β' j = β j) : NMw F β' Sc Sr z nn g0 g1 g3 g4 g5 := by
  obtain ⟨⟨h1, h2, h3, h4, h5, h6⟩, hz, hr⟩ := h
  refine ⟨⟨h1, h2, fun r q hr hq hn => vrel_b (h3 r q hr hq hn) (fun h0 => ?_), h4, h5, h6⟩, hz, hr⟩
  obtain ⟨o, o1, o2, o3⟩ := hL q (by omega)
  rw [ob_n o2 o1] at h0 ⊢
  exact hb o (o3.resolve_left h0)
theorem stkR_b (h : stkR β Sc Sr C) (hL : stLv n Sc) (hn : ∀ y, y ∈ C → vB y + vH y ≤ n) (hD : ∀ y, y ∈ C → vD y ≠ 0 → lv Sc (vD y)) (hb : ∀ j, lv Sc j → β' j = β j) : stkR β' Sc Sr C := by
  induction C with
  | nil => exact h
  | cons x r ih =>
    obtain ⟨h1, h2, h3⟩ := h
    have hx := hn x List.mem_cons_self
    refine ⟨fun i hi => vrel_b (h1 i hi) (fun h0 => ?_), fun hd => ?_, ih h3 (fun y hy => hn y (List.mem_cons_of_mem _ hy)) (fun y hy => hD y (List.mem_cons_of_mem _ hy))⟩
    · obtain ⟨o, o1, o2, o3⟩ := hL (vB x + i) (by omega)
      rw [ob_n o2 o1] at h0 ⊢
      exact hb o (o3.resolve_left h0)
    · rw [hb _ (hD x List.mem_cons_self hd)]
      exact h2 hd
theorem rCal_b (h : rCal β Sr C) (hF : ∀ y, y ∈ C → vF y ≠ 0 → lv Sc (vF y)) (hb : ∀ j, lv Sc j → β' j = β j) : rCal β' Sr C := by
  induction C with
  | nil => exact h
  | cons x r ih =>
    obtain ⟨⟨h1, h2, h3, h4⟩, h5⟩ := h
    refine ⟨⟨h1, h2, ?_, h4⟩, ih h5 (fun y hy => hF y (List.mem_cons_of_mem _ hy))⟩
    rw [h3]
    split
    · rfl
    · rename_i c
      rw [hb _ (hF x List.mem_cons_self c)]
/-- both with the new object k, thing r0 -/
theorem XR_nb {g : Nat → Nat} (h : CI F loc par ty G tq (x :: r) S) (hX : XR P T gT Q β F D z nn g0 g1 g3 g4 g5 gn tq (x :: r) S S1) (hN : nbX k g (topC (x :: r)) S X) (hr : r0 < 1500) (h0 : sA S1 87 r0 = 0) (ht : sQ S1 86 r0 = some t) (hT : tF r0 t S1 W) (hw : tOk W r0 t) (h87 : sA W 87 r0 = nI 1) (hbk : β' k = r0) (hβ : ∀ j, j ≠ k → β' j = β j) (ho : obR β' F X W g0 g1 nn k) : XR P T gT Q β' F D z nn g0 g1 g3 g4 g5 gn tq (x :: r) X W := by
  obtain ⟨n1, n2, n3, n4, n5, n6, n7, n8, n9⟩ := hN
  have hb : ∀ j, lv S j → β' j = β j := fun j hj => hβ j (fun c => n4 (c ▸ hj))
  obtain ⟨a1, a2, a3, a4, a5, a6, a7, a8, a9, a10, a11⟩ := hX
  have hm := h.1
  have hlv := lvOk_mem h.2.2.2.2.2.1
  have hlo := cCal_lo h.2.2.2.2.1
  have hQ := a1.wf
  have tQ := fun {a : Nat} (ha : Q a) (h87 : a ≠ 87) => tF_Q hQ hT hr ht ha h87
  have q108 : ∀ a, a < 108 → Q a := hQ.2.2.2.2.1
  obtain ⟨t1, t2, N, t3⟩ := tOk_t (hQ.1 _ t hr ht)
  have hkp := rKp_tF a10 a11 hQ hT hr ht
  have hNn := tF_N hQ hT hr ht a1.2.2.2.2.2.2.2.2.2.1
  have hHR := HR_new a1 hr h0 ht hT hw h87 n4 n5 n6 (mHS_cl hm) (mHS_cl n1) (mHS_ok n1 k n8 n9) hbk hβ ho
  obtain ⟨w1, w2, ⟨l', w3⟩, w4, _⟩ := hT
  have eI : ∀ i, i ∉ cfI0 → sI X i = sI S i := fun i hi => n3.2.2.1 i hi
  have eA : ∀ a, a ∉ cfA0 → sA X a = sA S a := fun a ha => n3.2.2.2.1 a ha
  have eWI : ∀ i, i < 10800 → sI W i = sI S1 i := fun i hi => (w4 i (fun j _ => by omega)).1
  have eWA : ∀ a, a < 108 → a ≠ 87 → sA W a = sA S1 a := fun a ha hn => (tQ (q108 a ha) hn).1
  have eWL : ∀ a, a < 108 → a ≠ 87 → sL W a = sL S1 a := fun a ha hn => (tQ (q108 a ha) hn).2
  have eWV : ∀ i, i < 10800 → sV W i = sV S1 i := fun i hi => (w4 i (fun j _ => by omega)).2
  have hgq := a3.2.2.2.2.2.2.1
  have hgs := a3.2.2.2.2.2.2.2.1
  have g87 : ∀ {g : Nat}, nG g → g ≠ 87 := fun h => nG_ne h (by omega)
  have cm : ∀ {a : Nat} {l : List Nat}, a ∈ l → (∀ b, b ∈ l → b < 108 ∧ b ≠ 87) → a < 108 ∧ a ≠ 87 := fun ha hl => hl _ ha
  refine ⟨hHR, ?_, ?_, ?_, ?_, ⟨by rw [eWI _ (by omega)]; exact a6.1, by rw [eWI _ (by omega)]; exact a6.2.1, by rw [eWI _ (by omega)]; exact a6.2.2⟩, triX_E a7 (fun a ha => ?_), lnC_E a8 (eA 55 (by decide)) (eI 5217 (by decide)) (eWA 98 (by omega) (by omega)), ?_, hkp, a11⟩
  · exact NMw_E (NMw_b a2 hm.2.2.2.2.2.1 hb) (n7 21 (by omega)) (n7 22 (by omega)) (n7 17 (by omega)) (n7 18 (by omega)) hNn (tQ hgq.2.2.1 (g87 hgs.2.2.1)).1 (tQ hgq.2.2.2.1 (g87 hgs.2.2.2.1)).2 (tQ hgq.2.2.2.2 (g87 hgs.2.2.2.2)).2
  · obtain ⟨b1, ⟨b2, b3, b4, b5, b6⟩, ⟨c0, c1, c3, c4, c5⟩, hr⟩ := a3
    exact ⟨by rw [eWI _ (by omega)]; exact b1, ⟨by rw [eWV _ (by omega)]; exact b2, by rw [eWV _ (by omega)]; exact b3, by rw [eWV _ (by omega)]; exact b4, by rw [eWV _ (by omega)]; exact b5, by rw [eWV _ (by omega)]; exact b6⟩, ⟨isK_A w3 c0, isK_A w3 c1, isK_A w3 c3, isK_A w3 c4, isK_A w3 c5⟩, hr⟩
  · exact stkR_s (stkR_b a4 hm.2.2.2.2.1 (fun y hy => by
      rcases List.mem_cons.mp hy with e | e
      · rw [e]; exact Nat.le_refl _
      · have := hlo y e
        show _ ≤ vB x + vH x
        omega) (fun y hy => (hlv y hy).2) hb) (n7 47 (by omega)) (n7 48 (by omega)) (eWA 91 (by omega) (by omega)) (eWL 92 (by omega) (by omega)) (eWL 93 (by omega) (by omega))
  · exact rCal_E (rCal_b a5 (fun y hy => (hlv y hy).1) hb) (by rw [w2]) (fun a ha => eWA a (by simp only [List.mem_cons, List.not_mem_nil, or_false] at ha; omega) (by simp only [List.mem_cons, List.not_mem_nil, or_false] at ha; omega))
  · exact eWA a (by simp only [List.mem_cons, List.not_mem_nil, or_false] at ha; omega) (by simp only [List.mem_cons, List.not_mem_nil, or_false] at ha; omega)
  · obtain ⟨⟨b1, b2⟩, ⟨o, o1, o2, o3, o4⟩, u, u1, u2⟩ := a9
    exact ⟨⟨by rw [eWI _ (by omega), eI 5218 (by decide)]; exact b1, by rw [eWI _ (by omega), eI 5219 (by decide)]; exact b2⟩, ⟨o, o1, by rw [eI 4906 (by decide)]; exact o2, by rw [eWI _ (by omega)]; exact o3, fun i hi => by rw [eWA 106 (by omega) (by omega), eA 50 (by decide)]; exact o4 i hi⟩, u, u1, by rw [eWI _ (by omega)]; exact u2⟩
end
