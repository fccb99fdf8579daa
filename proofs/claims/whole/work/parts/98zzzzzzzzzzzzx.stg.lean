/-! NAMES ON BOTH SIDES: a global name is bound or unbound: the class, the reference -/
section
variable {P : Nat → Prop} {T : cS} {gT : Nat} {Q : Nat → Prop} {β β' : Nat → Nat} {F : Nat → Nat → Nat → Prop} {loc par : Nat → Nat → Nat} {ty : Nat → Nat × Nat} {G : Nat → Nat → Nat → Nat × Nat × LL → Prop} {D D' K : List Nat} {z nn g0 g1 g3 g4 g5 gn d n m p q q' pT k j f c u s ni fr sl dp op nm rn o t0 : Nat} {tq : Nat → Nat × Nat} {C r : List Lv} {x : Lv} {S S' Sf S0 S1 X W Sc Sr : cS} {hi lo a b e : Int64} {kd : Int32}
/-- the class with a global name bound anew, v values popped -/
theorem hok_F {L1 L2 L3 : List Nat} (hF : FrL L1 L2 L3 S X) (h2 : ∀ a, a ∈ L2 → a ∉ [3, 7, 8, 10]) (h3 : ∀ a, a ∈ L3 → a < 108) (hok : h_ok S k) : h_ok X k := by
  obtain ⟨kd, z, x, y, a1, a2, a3, a4, a5, a6, a7, a8, a9, a10, a11⟩ := hok
  have eA : ∀ a, a ∈ [3, 7, 8, 10] → sA X a = sA S a := fun a ha => hF.A (fun c => h2 a c ha)
  refine ⟨kd, z, x, y, a1, by rw [eA 3 (by decide)]; exact a2, by rw [eA 10 (by decide)]; exact a3, by rw [eA 7 (by decide)]; exact a4, by rw [eA 8 (by decide)]; exact a5, a6, a7, a8, a9, by rw [hF.2.2.2.1]; exact a10, fun a ha => ?_⟩
  rw [hF.2.2.2.1] at ha
  obtain ⟨N, b1, b2, b3, b4, b5⟩ := a11 a ha
  refine ⟨N, b1, by rw [hF.2.2.2.2.1]; exact b2, b3, b4, fun e he => ?_⟩
  rw [hF.2.1 a (fun c => by have := h3 a c; omega)]
  exact b5 e he
theorem assign_CI (h : CI F loc par ty G tq (x :: r) S) (hq : q < 4096) (ho : c_obj hi lo = nI o) (ho2 : o ≤ 1500) (hol : o = 0 ∨ lv S o) (h5 : c_kind hi ≠ nI 5) : ∃ X W D, Ans (d + 4) 173 [.ref 16, .int (nI q), .long hi, .long lo] S none W ∧ CI F loc par ty G tq (x :: r) W ∧ CFm S W ∧ KX D X W ∧ FrL [1608] [5] [21, 22] S X ∧ sL W = sL X ∧ sL X 21 = vp_updL (sL S 21) q hi ∧ sL X 22 = vp_updL (sL S 22) q lo ∧ (∀ j, 1 ≤ j → j ≤ 1500 → obE S X j) := by
  obtain ⟨a1, a2, a3, a4, a5, a6, a7, a8, a9⟩ := h
  obtain ⟨X, W, D, b1, b2, b3, b4, b5, b6, b7, b8, b9, b10, b11⟩ := massign_T (d := d) a1 a2 hq ho ho2 hol
  refine ⟨X, W, D, b1, ?_, b4, b5, b6, b7, b8, b9, b10⟩
  have hlk := lv_KX b5
  have e3 : sA X 3 = sA S 3 := b6.A (by decide)
  have hlX : ∀ k, lv X k ↔ lv S k := fun k => by unfold lv; rw [e3]
  have hE1 : ∀ o, lv W o → obE S X o := fun o ho => b10 o ho.1 ho.2.1
  have hE : ∀ o, lv W o → obE S W o := fun o ho => (hE1 o ho).trans (obE_KX b5 (hok_F b6 (by decide) (by decide) (mHS_ok a1 o ho.1 ho.2.1)) ((hlk o).mp ho).2)
  have hk : ∀ o, lv W o → sA W 3 o = sA S 3 o := fun o ho => (hE o ho).1
  have hcl := mHS_cl b2
  have eA : ∀ a, a ≠ 5 → a ∉ kxA → sA W a = sA S a := fun a h5 ha => (b5.1.A ha).trans (b6.A (fun c => h5 (List.mem_singleton.mp c)))
  have eI : ∀ i, i ≠ 1608 → i ∉ kxI → sI W i = sI S i := fun i h5 hi => (b5.1.I hi).trans (b6.I (fun c => h5 (List.mem_singleton.mp c)))
  have es : ∀ i, sL W 47 i = sL S 47 i ∧ sL W 48 i = sL S 48 i := fun i => by rw [b7, b6.2.1 47 (by decide), b6.2.1 48 (by decide)]; exact ⟨rfl, rfl⟩
  have htop : ∀ y, y ∈ x :: r → vB y + vH y ≤ topC (x :: r) := fun y hy => by
    rcases List.mem_cons.mp hy with e | hy
    · rw [e]; exact Nat.le_refl _
    · have := cCal_lo a5 y hy
      show _ ≤ vB x + vH x
      omega
  refine ⟨b2, b3, stkC_K (n := topC (x :: r)) a3 htop (fun i _ => es i) (fun i hi => b2.2.2.2.2.1 i hi) hk, fun k hk' => ?_, ?_, ?_, ?_, triC_E a8 (eA 60 (by decide) (by decide)), fun j hj => ?_⟩
  · have hls := (hlX k).mp ((hlk k).mp hk').1
    obtain ⟨c1, c2⟩ := a4 k hls
    refine ⟨tyO_K c1 (hE k hk') (fun o ho => ⟨fun hm => ?_, hk o⟩), vlO_K c2 (hE k hk')⟩
    rw [← obE_tgs (hE k hk')] at hm
    exact (hcl k hk'.1 hk'.2.1 hk'.2.2 o hm).resolve_left (by have := ho.1; omega)
  · exact cCal_E a5 (fun a ha => eA a (fun c => by rw [c] at ha; revert ha; decide) (fun c => by revert ha c; revert a; decide))
  · exact lvOk_K a6 (fun y hy => by
      obtain ⟨c1, c2⟩ := gC_pos hy
      exact ⟨fun c => b2.2.2.2.2.2.2.1 _ (c1 c), fun c => b2.2.2.2.2.2.2.1 _ (c2 c)⟩) hk
  · obtain ⟨c1, c2, c3, c4⟩ := a7
    exact ⟨by rw [eI 5213 (by decide) (by decide)]; exact c1, by rw [eI 5214 (by decide) (by decide)]; exact c2, by rw [eI 5215 (by decide) (by decide)]; exact c3, c4⟩
  · rw [b7, b8]
    show c_kind (if j = q then hi else sL S 21 j) ≠ nI 5
    split
    · exact h5
    · exact a9 j hj
/-- the heap of the reference, where arrays of no thing have changed -/
def rMq (Q : Nat → Prop) (S W : cS) : Prop := sS W = sS S ∧ sQ W 86 = sQ S 86 ∧ sV W = sV S ∧ (∀ i, 10800 ≤ i → sI W i = sI S i) ∧ (∀ a, 108 ≤ a → ¬ Q a → sA W a = sA S a ∧ sL W a = sL S a) ∧ sA W 87 = sA S 87
theorem thE_q (h : rMq Q S W) (hQ : tWf Q S) (hp : p < 1500) (ht : sQ S 86 p = some t0) : thE S W p := by
  obtain ⟨v2, v3, v4, v5, v6, v7, n, m, w, _⟩ := hQ.1 p t0 hp ht
  obtain ⟨b1, b2, b3, b4, b5, b6⟩ := h
  refine ⟨by rw [b6], by rw [b2], ⟨[], by rw [b1, List.append_nil]⟩, fun t' ht' => ?_⟩
  have e : t' = t0 := by
    have := w.1
    rw [ht'] at this
    injection this
  subst e
  refine ⟨fun i hi => ⟨b4 _ (by have := w.2.1; omega), by rw [b3]⟩, fun f v f2 f7 hv => b5 v (tRef_v w f2 f7 hv).1 (hQ.2.2.2.1 p _ f v hp ht f2 f7 hv)⟩
theorem tWf_q (h : rMq Q S W) (hQ : tWf Q S) : tWf Q W := by
  have hth := fun p t (hp : p < 1500) (ht : sQ S 86 p = some t) => thE_q h hQ hp ht
  obtain ⟨q1, q2, q3, q4, q5, q6⟩ := hQ
  obtain ⟨b1, b2, b3, b4, b5, b6⟩ := h
  refine ⟨fun p t hp ht => ?_, fun p q t hp hq ha hb => ?_, fun p q t t' f f' v hp hq hpq ha hb => ?_, fun p t f v hp ha => ?_, q5, fun a ha => by rw [b1]; exact q6 a ha⟩
  · rw [b2] at ht
    have ok := q1 p t hp ht
    have e := hth p t hp ht
    obtain ⟨v2, v3, v4, v5, v6, v7, n, m, w, wd, wl, wk⟩ := ok
    obtain ⟨e1, _, _, _, e3, _⟩ := tRef_E w e
    exact ⟨v2, v3, v4, v5, v6, v7, n, m, e1, wd, wl, fun j hj => by rw [e3]; exact wk j hj⟩
  · rw [b2] at ha hb
    exact q2 p q t hp hq ha hb
  · rw [b2] at ha hb
    rw [b3]
    exact q3 p q t t' f f' v hp hq hpq ha hb
  · rw [b2] at ha
    rw [b3]
    exact q4 p t f v hp ha
theorem HR_q (hM : rMq Q Sr W) (hN : tnE Sr W g0 g1) (h : HR Q β F D Sc Sr g0 g1 nn) : HR Q β F D Sc W g0 g1 nn := by
  obtain ⟨a1, a2, a3, a4, a5, a6, a7, a8, a9, a10, a11⟩ := h
  have e87 : sA W 87 = sA Sr 87 := hM.2.2.2.2.2
  have hE : ∀ p, p < 1500 → sA Sr 87 p ≠ 0 → thE Sr W p := fun p hp h0 => by
    obtain ⟨N, q1, _⟩ := r_ok_t (a8 p hp h0).1
    exact thE_q hM a9 hp q1
  have hx : ∀ p, p < 1500 → sA Sr 87 p ≠ 0 → r_ok W p ∧ rtgs W p = rtgs Sr p := fun p hp h0 => r_ok_E (a8 p hp h0).1 (hE p hp h0)
  refine ⟨fun j hj => obR_r (a1 j hj) (hE _ (a1 j hj).1 (a1 j hj).2.1) hN, a2, fun p hp h0 => a3 p hp (by rw [← e87]; exact h0), a4, fun x hx' => ⟨(a5 x hx').1, by rw [e87]; exact (a5 x hx').2.1, (a5 x hx').2.2⟩, List.Pairwise.imp_of_mem (fun {a b} ha hb hab => ?_) a6, fun x hx' => ?_, fun p hp h0 => ?_, tWf_q hM a9, a10, fun p hp => by rw [e87]; exact a11 p hp⟩
  · rw [(hx b (a5 b hb).1 (a5 b hb).2.1).2]; exact hab
  · rw [(hx x (a5 x hx').1 (a5 x hx').2.1).2]; exact a7 x hx'
  · rw [e87] at h0
    obtain ⟨y1, y2⟩ := hx p hp h0
    exact ⟨y1, by rw [y2]; exact (a8 p hp h0).2⟩
/-- a value is bound in both, all three of its numbers -/
theorem NM_set3 {V W V' W' : Nat → Int64} {z nn g0 g1 g3 g4 g5 q r : Nat} {hi lo a b : Int64} {kd : Int32} (h : NMv β S V W z nn g0 g1 g3 g4 g5) (hq : q < z) (hr : r < nn) (hqr : nrel S g0 g1 q r) (hdist : ∀ i k, i < z → k < z → sL S 17 i = sL S 17 k → sL S 18 i = sL S 18 k → i = k) (hv : vrel β hi lo kd a b) (e0 : sA S' g0 = sA S g0) (e1 : sA S' g1 = sA S g1) (e3 : ∀ i, sA S' g3 i = if i = r then kd else sA S g3 i) (e4 : ∀ i, sL S' g4 i = if i = r then a else sL S g4 i) (e5 : ∀ i, sL S' g5 i = if i = r then b else sL S g5 i) (e17 : sL S' 17 = sL S 17) (e18 : sL S' 18 = sL S 18) (e21 : ∀ i, V' i = if i = q then hi else V i) (e22 : ∀ i, W' i = if i = q then lo else W i) (hz : z ≤ 4096) : NMv β S' V' W' z nn g0 g1 g3 g4 g5 := by
  obtain ⟨n1, n2, n3, n4, n5, n6⟩ := h
  have hH : ∀ r, rnH S' g0 g1 r = rnH S g0 g1 r := fun r => by unfold rnH rnm; rw [e0, e1]
  have hL : ∀ r, rnL S' g0 g1 r = rnL S g0 g1 r := fun r => by unfold rnL rnm; rw [e0, e1]
  have hn : ∀ q r, nrel S' g0 g1 q r ↔ nrel S g0 g1 q r := fun q r => by
    unfold nrel c_is
    rw [hH, hL, e17, e18]
  refine ⟨fun r hr => ?_, fun r s hr hs => ?_, fun s p hs hp hnr => ?_, fun s hs hno => ?_, fun p hp hno => ?_, fun p h1 h2 => ?_⟩
  · unfold rnOk; rw [e0, e1]; exact n1 r hr
  · rw [hH, hH, hL, hL]; exact n2 r s hr hs
  · rw [hn] at hnr
    rw [e21, e22, e3, e4, e5]
    by_cases ep : p = q
    · have es : s = r := n2 s r hs hr (by rw [← hnr.1, ← hqr.1, ep]) (by rw [← hnr.2, ← hqr.2, ep])
      rw [if_pos ep, if_pos ep, if_pos es, if_pos es, if_pos es]
      exact hv
    · have es : s ≠ r := fun es => ep (hdist p q hp hq (by rw [hnr.1, hqr.1, es]) (by rw [hnr.2, hqr.2, es]))
      rw [if_neg ep, if_neg ep, if_neg es, if_neg es, if_neg es]
      exact n3 s p hs hp hnr
  · have es : s ≠ r := fun es => hno q hq (by rw [hn, es]; exact hqr)
    rw [e3, if_neg es]
    exact n4 s hs (fun p hp hpr => hno p hp ((hn p s).mpr hpr))
  · have ep : p ≠ q := fun ep => hno r hr (by rw [hn, ep]; exact hqr)
    rw [e21, e22, if_neg ep, if_neg ep]
    exact n5 p hp (fun r hr hpr => hno r hr ((hn p r).mpr hpr))
  · rw [e21, e22, if_neg (by omega), if_neg (by omega)]
    exact n6 p h1 h2
/-- both, behind a global name bound anew -/
theorem assign_XR (h : CI F loc par ty G tq (x :: r) S) (hX : XR P T gT Q β F D z nn g0 g1 g3 g4 g5 gn tq (x :: r) S Sr) (hF : F q 0 rn) (hK : KX K X S') (hFr : FrL [1608] [5] [21, 22] S X) (eL : sL S' = sL X) (e21 : sL X 21 = vp_updL (sL S 21) q hi) (e22 : sL X 22 = vp_updL (sL S 22) q lo) (hE : ∀ j, 1 ≤ j → j ≤ 1500 → obE S X j) (hv : vrel β hi lo kd a b) (hW : W = wL g5 rn b (wL g4 rn a (wA g3 rn kd Sr))) : XR P T gT Q β F (D ++ K.map β) z nn g0 g1 g3 g4 g5 gn tq (x :: r) S' W := by
  obtain ⟨a1, a2, a3, a4, a5, a6, a7, a8, a9, a10, a11⟩ := hX
  obtain ⟨t1, t2, t3, t4, t5, t6, ⟨q0, q1, q3, q4, q5⟩, ⟨n0, n1, n3, n4, n5⟩, d1, d2, d3, d4⟩ := a3
  obtain ⟨k1, k2, ⟨k3, k4⟩, k5, k6⟩ := a2
  obtain ⟨f1, f2, f3⟩ := k6 q rn hF
  have eA : ∀ c, c ≠ g3 → sA W c = sA Sr c := fun c hc => by rw [hW]; exact if_neg hc
  have eA3 : ∀ i, sA W g3 i = if i = rn then kd else sA Sr g3 i := fun i => by
    rw [hW]
    show (if g3 = g3 then va_up (sA Sr g3) rn kd else sA Sr g3) i = _
    rw [if_pos rfl]
    rfl
  have eL4 : ∀ i, sL W g4 i = if i = rn then a else sL Sr g4 i := fun i => by
    rw [hW, rL, if_neg d4, rL, if_pos rfl]
    rfl
  have eL5 : ∀ i, sL W g5 i = if i = rn then b else sL Sr g5 i := fun i => by
    rw [hW, rL, if_pos rfl, rL, if_neg (fun c => d4 c.symm)]
    rfl
  have eLn : ∀ c, c ≠ g4 → c ≠ g5 → sL W c = sL Sr c := fun c h4 h5 => by rw [hW, rL, if_neg h5, rL, if_neg h4]; rfl
  have eI : sI W = sI Sr := by rw [hW]; rfl
  have eV : sV W = sV Sr := by rw [hW]; rfl
  have eQ : sQ W = sQ Sr := by rw [hW]; rfl
  have eS : sS W = sS Sr := by rw [hW]; rfl
  have eJ : sJ W = sJ Sr := by rw [hW]; rfl
  have eM : mu W = mu Sr := by rw [hW]; rfl
  have neA : ∀ c, 67 ≤ c → c < 108 → c ≠ 79 → c ≠ 80 → sA W c = sA Sr c := fun c h1 h2 h3 h4 => eA c (fun e => nG_ne n3 (a := c) ⟨h1, h2, h3, h4⟩ e.symm)
  have neL : ∀ c, 67 ≤ c → c < 108 → c ≠ 79 → c ≠ 80 → sL W c = sL Sr c := fun c h1 h2 h3 h4 => eLn c (fun e => nG_ne n4 (a := c) ⟨h1, h2, h3, h4⟩ e.symm) (fun e => nG_ne n5 (a := c) ⟨h1, h2, h3, h4⟩ e.symm)
  have l17 : ∀ c, c < 62 → sL W c = sL Sr c := fun c hc => eLn c (fun e => by subst e; unfold nG at n4; omega) (fun e => by subst e; unfold nG at n5; omega)
  have hN : tnE Sr W g0 g1 := ⟨eA g0 d2, eA g1 d3, l17 17 (by omega), l17 18 (by omega)⟩
  have hM : rMq Q Sr W := ⟨eS, by rw [eQ], eV, fun i _ => by rw [eI], fun c hc hQ => ⟨eA c (fun e => hQ (e ▸ q3)), eLn c (fun e => hQ (e ▸ q4)) (fun e => hQ (e ▸ q5))⟩, neA 87 (by omega) (by omega) (by omega) (by omega)⟩
  have hlX : ∀ k, lv X k ↔ lv S k := fun k => by unfold lv; rw [hFr.A (by decide)]
  have hokX : ∀ j, 1 ≤ j → j ≤ 1500 → h_ok X j := fun j h1 h2 => hok_F hFr (by decide) (by decide) (mHS_ok h.1 j h1 h2)
  have hclX : h_cl X := fun j h1 h2 h3 t ht => by
    rw [hFr.A (by decide)] at h3
    rw [obE_tgs (hE j h1 h2)] at ht
    rcases mHS_cl h.1 j h1 h2 h3 t ht with c | c
    · exact Or.inl c
    · exact Or.inr ((hlX t).mpr c)
  have hHR := HR_kill (HR_c (HR_q hM hN a1) hlX (fun j hj => hE j hj.1 hj.2.1)) hclX hokX hK
  have e47 : sL S' 47 = sL S 47 := by rw [eL]; exact hFr.2.1 47 (by decide)
  have e48 : sL S' 48 = sL S 48 := by rw [eL]; exact hFr.2.1 48 (by decide)
  have cI : ∀ i, i ≠ 1608 → i ∉ kxI → sI S' i = sI S i := fun i h5 hi => (hK.1.I hi).trans (hFr.I (fun c => h5 (List.mem_singleton.mp c)))
  have cA : ∀ c, c ≠ 5 → c ∉ kxA → sA S' c = sA S c := fun c h5 hc => (hK.1.A hc).trans (hFr.A (fun e => h5 (List.mem_singleton.mp e)))
  refine ⟨hHR, ⟨?_, k2, ⟨by rw [l17 17 (by omega), eL, hFr.2.1 17 (by decide)]; exact k3, by rw [l17 18 (by omega), eL, hFr.2.1 18 (by decide)]; exact k4⟩, ?_, fun q' r' hF' => ⟨(k6 q' r' hF').1, (k6 q' r' hF').2.1, (nrelE hN q' r').mpr (k6 q' r' hF').2.2⟩⟩, ⟨by rw [eI]; exact t1, by rw [eV]; exact t2, ⟨isK_S eS t3.1, isK_S eS t3.2.1, isK_S eS t3.2.2.1, isK_S eS t3.2.2.2.1, isK_S eS t3.2.2.2.2⟩, t4, t5, t6, ⟨q0, q1, q3, q4, q5⟩, ⟨n0, n1, n3, n4, n5⟩, d1, d2, d3, d4⟩, stkR_s a4 e47 e48 (neA 91 (by omega) (by omega) (by omega) (by omega)) (neL 92 (by omega) (by omega) (by omega) (by omega)) (neL 93 (by omega) (by omega) (by omega) (by omega)), rCal_E a5 (by rw [eQ]) (fun c hc => ?_), ?_, triX_E a7 (fun c hc => ?_), lnC_E a8 (cA 55 (by decide) (by decide)) (cI 5217 (by decide) (by decide)) (neA 98 (by omega) (by omega) (by omega) (by omega)), ?_, ?_, a11⟩
  · rw [eL]
    refine NM_set3 k1 f1 f2 f3 (fun i k hi hk e1 e2 => k5.1 i k hi hk (by rw [← k3]; exact e1) (by rw [← k4]; exact e2)) hv (eA g0 d2) (eA g1 d3) eA3 eL4 eL5 (l17 17 (by omega)) (l17 18 (by omega)) (fun i => ?_) (fun i => ?_) k2
    · rw [e21]; rfl
    · rw [e22]; rfl
  · rw [eL, hFr.2.1 17 (by decide), hFr.2.1 18 (by decide)]
    exact ⟨k5.1, fun i => by rw [eA g0 d2]; exact k5.2 i⟩
  · have hc' : 95 ≤ c ∧ c ≤ 100 := by revert c; decide
    exact neA c (by omega) (by omega) (by omega) (by omega)
  · obtain ⟨b1, b2, b3⟩ := a6
    exact ⟨by rw [eI]; exact b1, by rw [eI]; exact b2, by rw [eI]; exact b3⟩
  · have hc' : 101 ≤ c ∧ c ≤ 103 := by revert c; decide
    exact neA c (by omega) (by omega) (by omega) (by omega)
  · obtain ⟨⟨b1, b2⟩, ⟨o, o1, o2, o3, o4⟩, u, u1, u2⟩ := a9
    exact ⟨⟨by rw [eI, cI 5218 (by decide) (by decide)]; exact b1, by rw [eI, cI 5219 (by decide) (by decide)]; exact b2⟩, ⟨o, o1, by rw [cI 4906 (by decide) (by decide)]; exact o2, by rw [eI]; exact o3, fun i hi => by rw [neA 106 (by omega) (by omega) (by omega) (by omega), cA 50 (by decide) (by decide)]; exact o4 i hi⟩, u, u1, by rw [eI]; exact u2⟩
  · obtain ⟨b1, b2, b3, ⟨l, b4⟩, b5, b6, b7, b8, b9⟩ := a10
    obtain ⟨p1, p2, p3, p4, p5, p6⟩ := a11
    obtain ⟨e1, e2⟩ := tc_same (S := Sr) (W := W) (by rw [eQ]) eS eV
    have er : rtC W = rtC Sr ∧ rtN W = rtN Sr := by unfold rtC rtN; rw [e1, e2]; exact ⟨rfl, rfl⟩
    exact ⟨eJ.trans b1, fun i hi => by rw [eI]; exact b2 i hi, fun i hi hn => by rw [eV]; exact b3 i hi hn, ⟨l, by rw [eS]; exact b4⟩, fun c hc => ⟨(eA c (fun e => p4 (e ▸ hc))).trans (b5 c hc).1, (eLn c (fun e => p5 (e ▸ hc)) (fun e => p6 (e ▸ hc))).trans (b5 c hc).2⟩, fun c h1 h2 => by rw [eQ]; exact b6 c h1 h2, fun m zm hm hs j hj => ⟨by rw [eI]; exact (b7 m zm hm hs j hj).1, by rw [eV]; exact (b7 m zm hm hs j hj).2⟩, by rw [eM, er.1]; exact b8, by rw [eS, er.2]; exact b9⟩
end
