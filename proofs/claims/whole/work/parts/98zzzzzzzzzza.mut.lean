/-! DEEDS ON BOTH SIDES: an object changes -/
/-- object k alone goes from S to X; then D goes, and the stack's top -/
def mtX (k : Nat) (D : List Nat) (S X S' : cS) : Prop := KX D X S' ∧ CFm S S' ∧ (∀ j, 1 ≤ j → j ≤ 1500 → j ≠ k → obE S X j) ∧ h_cl X ∧ (∀ j, 1 ≤ j → j ≤ 1500 → h_ok X j) ∧ (∀ q, lv X q ↔ lv S q) ∧ (∀ a, a < 108 → sL X a = sL S a) ∧ sA X 3 = sA S 3 ∧ sA X 7 = sA S 7 ∧ sA X 8 = sA S 8 ∧ sA X 9 = sA S 9
section
variable {P : Nat → Prop} {T : cS} {gT : Nat} {Q : Nat → Prop} {β : Nat → Nat} {F : Nat → Nat → Nat → Prop} {loc par : Nat → Nat → Nat} {ty : Nat → Nat × Nat} {G : Nat → Nat → Nat → Nat × Nat × LL → Prop} {D D' K : List Nat} {z nn g0 g1 g3 g4 g5 gn d v o t k : Nat} {tq : Nat → Nat × Nat} {C r : List Lv} {x : Lv} {g : Nat → Nat} {Sc Sr S S' X W W0 : cS}
theorem mtX_of (hc : chX k D g t S X W) (hK : KX K W S') (hcl : h_cl W) : mtX k (D ++ K) S X S' := by
  obtain ⟨c1, c2, c3, c4, c5, c6, c7, c8, c9, c10, c11, c12, c13, c14, c15, c16⟩ := hc
  exact ⟨KX_trans c4 hK hcl c8, c3.trans (CFm_KX hK), c6, c7, c8, c10, c11, c12, c13, c14, c15⟩
/-- the class behind it: v values are gone too -/
theorem CI_mut (h : CI F loc par ty G tq (x :: r) S) (hM : mtX k D S X S') (hm : mHS 0 (gC (x :: r)) (topC (x :: r) - v) S') (hR : rwL S') (h7 : sA S 3 k = nI 7 → sA X 10 k = sA S 10 k) (hvl : lv S k → vlO X k) (e : ∀ i, i < topC (x :: r) - v → sL S' 47 i = sL S 47 i ∧ sL S' 48 i = sL S 48 i) (hl : lob (vL x) + v ≤ vH x) (p q : Nat) : CI F loc par ty G tq (vAt x p q (vH x - v, vU x, vL x) :: r) S' := by
  obtain ⟨a1, a2, a3, a4, a5, a6, a7, a8, a9⟩ := h
  obtain ⟨hK, hCF, hE, hclX, hokX, hlX, hLX, x3, x7, x8, x9⟩ := hM
  have hlk : ∀ q, lv S' q → lv X q ∧ lv S q := fun q hq => by
    have := ((lv_KX hK q).mp hq).1
    exact ⟨this, (hlX q).mp this⟩
  have hEK : ∀ o, lv S' o → obE X S' o := fun o ho => obE_KX hK (hokX o ho.1 ho.2.1) ((lv_KX hK o).mp ho).2
  have k3 : ∀ o, lv S' o → sA S' 3 o = sA S 3 o := fun o ho => by rw [(hEK o ho).1, x3]
  have hcl := mHS_cl hm
  have ht : topC (x :: r) = vB x + vH x := rfl
  have eA : ∀ a, a ∉ cfA0 → sA S' a = sA S a := fun a ha => hCF.2.2.2.1 a ha
  have eI : ∀ i, i ∉ cfI0 → sI S' i = sI S i := fun i hi => hCF.2.2.1 i hi
  have hsv : stLv (topC (x :: r) - v) S' := fun i hi => hm.2.2.2.2.1 i hi
  obtain ⟨m1, m2, m3⟩ := a3
  obtain ⟨l1, l2, l3, l4, l5⟩ := m2
  refine ⟨?_, hR, ?_, fun j hj => ?_, ?_, ?_, ?_, ?_, fun q hq => ?_⟩
  · have e2 : topC (vAt x p q (vH x - v, vU x, vL x) :: r) = topC (x :: r) - v := by
      show vB x + (vH x - v) = vB x + vH x - v
      omega
    rw [e2]
    exact hm
  · refine ⟨?_, ⟨l1, l2, by show lob (vL x) ≤ vH x - v; omega, by have l4' : vH x ≤ 600 := l4; show vH x - v ≤ 600; omega, l5⟩, stkC_K (n := topC (x :: r) - v) m3 (fun y hy => by have := cCal_lo a5 y hy; omega) e hsv k3⟩
    exact mkOk_K (S' := S') (h := vH x - v) (n := topC (x :: r) - v) (l := vL x) (b := vB x) ⟨fun i hi => m1.1 i (by omega), m1.2⟩ (by omega) (by omega) l2 e hsv k3
  · obtain ⟨jX, jS⟩ := hlk j hj
    obtain ⟨b1, b2⟩ := a4 j jS
    have toX : ∀ o, lv S o → (o ∈ tgs S j → lv X o) ∧ (lv X o → sA X 3 o = sA S 3 o) := fun o ho => ⟨fun _ => (hlX o).mpr ho, fun _ => by rw [x3]⟩
    have hX : tyO F loc par ty X j ∧ vlO X j := by
      by_cases c : j = k
      · subst c
        exact ⟨tyO_L b1 (by rw [x3]) (by rw [x7]) (by rw [x8]) (by rw [x9]) h7 toX, hvl jS⟩
      · have := hE j jX.1 jX.2.1 c
        exact ⟨tyO_K b1 this toX, vlO_K b2 this⟩
    refine ⟨tyO_K hX.1 (hEK j hj) (fun o ho => ⟨fun hm => ?_, fun hl' => (hEK o hl').1⟩), vlO_K hX.2 (hEK j hj)⟩
    rw [← obE_tgs (hEK j hj)] at hm
    exact (hcl j hj.1 hj.2.1 hj.2.2 o hm).resolve_left (by have := ho.1; omega)
  · cases r with
    | nil => exact a5
    | cons y r => exact cCal_E (S := S) (C := vAt x p q (vH x - v, vU x, vL x) :: y :: r) a5 (fun a ha => eA a (fun c => by revert ha c; revert a; decide))
  · have h6' : lvOk G ty S (vAt x p q (vH x - v, vU x, vL x) :: r) := a6
    exact lvOk_K h6' (fun y hy => by
      obtain ⟨c1, c2⟩ := gC_pos hy
      exact ⟨fun c => hm.2.2.2.2.2.2.1 _ (c1 c), fun c => hm.2.2.2.2.2.2.1 _ (c2 c)⟩) k3
  · obtain ⟨b1, b2, b3, b4⟩ := a7
    exact ⟨by rw [eI 5213 (by decide)]; exact b1, by rw [eI 5214 (by decide)]; exact b2, by rw [eI 5215 (by decide)]; exact b3, b4⟩
  · exact triC_E (C := vAt x p q (vH x - v, vU x, vL x) :: r) a8 (eA 60 (by decide))
  · rw [hK.1.2.1 21 (by decide), hLX 21 (by decide)]
    exact a9 q hq
/-- room: one thing's -/
theorem rt_tF (hQ : tWf Q Sr) (h : tF o t Sr W) (hr : o < 1500) (ht : sQ Sr 86 o = some t) : mu W + rtC Sr = mu Sr + rtC W ∧ (sS W).length + rtN Sr = (sS Sr).length + rtN W := by
  have u1 := sumN_up (f := tcC Sr) (g := tcC W) (n := 1500) (k := o) (fun i hi hn => (tF_o hQ h hr ht hi hn).2.1) hr
  have u2 := sumN_up (f := tcN Sr) (g := tcN W) (n := 1500) (k := o) (fun i hi hn => (tF_o hQ h hr ht hi hn).2.2) hr
  have w1 := h.2.2.2.2.2.2.2.2.1
  have w2 := h.2.2.2.2.2.2.2.2.2
  unfold rtC rtN
  omega
/-- the reference behind it: thing o alone has changed -/
theorem rKp_tF (h : rKp P T gT gn Sr) (hp : pQ P Q g0 g1 g3 g4 g5) (hQ : tWf Q Sr) (hT : tF o t Sr W) (hr : o < 1500) (ht : sQ Sr 86 o = some t) : rKp P T gT gn W := by
  obtain ⟨a1, a2, a3, ⟨l, a4⟩, a5, a6, a7, a8, a9⟩ := h
  obtain ⟨u1, u2⟩ := rt_tF hQ hT hr ht
  obtain ⟨t1, t2, N, t3⟩ := tOk_t (hQ.1 o t hr ht)
  have tQ := fun {a : Nat} (ha : Q a) (h87 : a ≠ 87) => tF_Q hQ hT hr ht ha h87
  obtain ⟨w1, w2, ⟨l', w3⟩, w4, _⟩ := hT
  refine ⟨w1.trans a1, fun i hi => ((w4 i (fun j _ => by omega)).1).trans (a2 i hi), fun i hi hn => ((w4 i (fun j _ => by omega)).2).trans (a3 i hi hn), ⟨l ++ l', by rw [w3, a4, List.append_assoc]⟩, fun a ha => ?_, fun b h1 h2 => by rw [w2]; exact a6 b h1 h2, fun m zm hm hs j hj => ?_, by omega, by omega⟩
  · obtain ⟨p1, p2⟩ := hp.1 a ha
    obtain ⟨e1, e2⟩ := tQ p1 (by omega)
    exact ⟨e1.trans (a5 a ha).1, e2.trans (a5 a ha).2⟩
  · have hne : m ≠ t := fun c => by
      subst c
      have hlt := (List.getElem?_eq_some_iff.mp hs).1
      rw [a4, List.getElem?_append_left hlt, hs] at t3
      injection t3 with t3
      injection t3 with t3 _
      omega
    have := w4 (100 * m + j) (fun j' hj' => by omega)
    exact ⟨this.1.trans (a7 m zm hm hs j hj).1, this.2.trans (a7 m zm hm hs j hj).2⟩
theorem isK_A {a b N : Nat} {l : List (Nat × Nat)} (e : sS W = sS S ++ l) (h : isK S a b N) : isK W a b N := by
  rcases h with h | h
  · exact Or.inl h
  · refine Or.inr ⟨h.1, ?_⟩
    have hlt := (List.getElem?_eq_some_iff.mp h.2).1
    rw [e, List.getElem?_append_left hlt]
    exact h.2
theorem XR_mut (hX : XR P T gT Q β F D z nn g0 g1 g3 g4 g5 gn tq (x :: r) S Sr) (hcal : cCal S (x :: r)) (hM : mtX k K S X S') (hk : β k < 1500) (hT : tF (β k) t Sr W0) (ht : sQ Sr 86 (β k) = some t) (hHR : HR Q β F D X W0 g0 g1 nn) (hv : v ≤ vH x) (e : ∀ i, i < topC (x :: r) - v → sL S' 47 i = sL S 47 i ∧ sL S' 48 i = sL S 48 i) : XR P T gT Q β F (D ++ K.map β) z nn g0 g1 g3 g4 g5 gn tq (vAt x (vP x) (vQ x) (vH x - v, vU x, vL x) :: r) S' (wI 6151 (nI (topC (x :: r) - v + offC (x :: r))) W0) := by
  obtain ⟨a1, a2, a3, a4, a5, a6, a7, a8, a9, a10, a11⟩ := hX
  obtain ⟨hK, hCF, hE, hclX, hokX, hlX, hLX, x3, x7, x8, x9⟩ := hM
  have hQ := a1.wf
  have ht0 : topC (x :: r) = vB x + vH x := rfl
  have tQ := fun {a : Nat} (ha : Q a) (h87 : a ≠ 87) => tF_Q hQ hT hk ht ha h87
  have q108 : ∀ a, a < 108 → Q a := hQ.2.2.2.2.1
  obtain ⟨t1, t2, N, t3⟩ := tOk_t (hQ.1 _ t hk ht)
  have hkp := rKp_tF a10 a11 hQ hT hk ht
  have hN := tF_N hQ hT hk ht a1.2.2.2.2.2.2.2.2.2.1
  obtain ⟨w1, w2, ⟨l', w3⟩, w4, _⟩ := hT
  have eI : ∀ i, i ∉ cfI0 → sI S' i = sI S i := fun i hi => hCF.2.2.1 i hi
  have eA : ∀ a, a ∉ cfA0 → sA S' a = sA S a := fun a ha => hCF.2.2.2.1 a ha
  have eWI : ∀ i, i < 10800 → i ≠ 6151 → sI (wI 6151 (nI (topC (x :: r) - v + offC (x :: r))) W0) i = sI Sr i := fun i hi hn => (show sI (wI 6151 _ W0) i = sI W0 i from if_neg hn).trans (w4 i (fun j _ => by omega)).1
  have eWA : ∀ a, a < 108 → a ≠ 87 → sA (wI 6151 (nI (topC (x :: r) - v + offC (x :: r))) W0) a = sA Sr a := fun a ha hn => (tQ (q108 a ha) hn).1
  have eWL : ∀ a, a < 108 → a ≠ 87 → sL (wI 6151 (nI (topC (x :: r) - v + offC (x :: r))) W0) a = sL Sr a := fun a ha hn => (tQ (q108 a ha) hn).2
  have eWV : ∀ i, i < 10800 → sV (wI 6151 (nI (topC (x :: r) - v + offC (x :: r))) W0) i = sV Sr i := fun i hi => (w4 i (fun j _ => by omega)).2
  have hgq := a3.2.2.2.2.2.2.1
  have hgs := a3.2.2.2.2.2.2.2.1
  have g87 : ∀ {g : Nat}, nG g → g ≠ 87 := fun h => nG_ne h (by omega)
  refine ⟨HR_kill (HR_M (rM_I (by omega) (rM.refl _)) ⟨rfl, rfl, rfl, rfl⟩ hHR) hclX hokX hK, ?_, ?_, ?_, ?_, ?_, triX_E (C := vAt x (vP x) (vQ x) (vH x - v, vU x, vL x) :: r) a7 (fun a ha => ?_), lnC_E (C := vAt x (vP x) (vQ x) (vH x - v, vU x, vL x) :: r) a8 (eA 55 (by decide)) (eI 5217 (by decide)) (eWA 98 (by omega) (by omega)), ?_, ?_, a11⟩
  · exact NMw_E a2 ((hK.1.2.1 21 (by decide)).trans (hLX 21 (by decide))) ((hK.1.2.1 22 (by decide)).trans (hLX 22 (by decide))) ((hK.1.2.1 17 (by decide)).trans (hLX 17 (by decide))) ((hK.1.2.1 18 (by decide)).trans (hLX 18 (by decide))) hN (tQ hgq.2.2.1 (g87 hgs.2.2.1)).1 (tQ hgq.2.2.2.1 (g87 hgs.2.2.2.1)).2 (tQ hgq.2.2.2.2 (g87 hgs.2.2.2.2)).2
  · obtain ⟨b1, ⟨b2, b3, b4, b5, b6⟩, ⟨c0, c1, c3, c4, c5⟩, hr⟩ := a3
    exact ⟨by rw [eWI _ (by omega) (by omega)]; exact b1, ⟨by rw [eWV _ (by omega)]; exact b2, by rw [eWV _ (by omega)]; exact b3, by rw [eWV _ (by omega)]; exact b4, by rw [eWV _ (by omega)]; exact b5, by rw [eWV _ (by omega)]; exact b6⟩, ⟨isK_A w3 c0, isK_A w3 c1, isK_A w3 c3, isK_A w3 c4, isK_A w3 c5⟩, hr⟩
  · obtain ⟨b1, b2, b3⟩ := a4
    have eo : offC (x :: r) = mkb x + offC r := rfl
    refine ⟨fun i hi => ?_, fun hd => ?_, stkR_E (n := topC (x :: r) - v) b3 (fun y hy => by have := cCal_lo hcal y hy; omega) e (fun i hi => by rw [eWA 91 (by omega) (by omega), eWL 92 (by omega) (by omega), eWL 93 (by omega) (by omega)]; exact ⟨rfl, rfl, rfl⟩)⟩
    · have hi' : i < vH x - v := hi
      show vrel β (sL S' 47 (vB x + i)) (sL S' 48 (vB x + i)) (sA _ 91 (vB x + i + offC (x :: r))) (sL _ 92 (vB x + i + offC (x :: r))) (sL _ 93 (vB x + i + offC (x :: r)))
      obtain ⟨c1, c2⟩ := e (vB x + i) (by omega)
      rw [c1, c2, eWA 91 (by omega) (by omega), eWL 92 (by omega) (by omega), eWL 93 (by omega) (by omega)]
      exact b1 i (by omega)
    · show sA _ 91 (vB x + offC r) = _ ∧ sL _ 92 (vB x + offC r) = _
      rw [eWA 91 (by omega) (by omega), eWL 92 (by omega) (by omega)]
      exact b2 hd
  · exact rCal_E (C := vAt x (vP x) (vQ x) (vH x - v, vU x, vL x) :: r) a5 (by show sQ W0 94 = _; rw [w2]) (fun a ha => eWA a (by simp only [List.mem_cons, List.not_mem_nil, or_false] at ha; omega) (by simp only [List.mem_cons, List.not_mem_nil, or_false] at ha; omega))
  · obtain ⟨b1, b2, b3⟩ := a6
    refine ⟨?_, by rw [eWI _ (by omega) (by omega)]; exact b2, by rw [eWI _ (by omega) (by omega)]; exact b3⟩
    rw [rIe]
    congr 1
    show vB x + vH x - v + offC (x :: r) = vB x + (vH x - v) + offC (x :: r)
    omega
  · exact eWA a (by simp only [List.mem_cons, List.not_mem_nil, or_false] at ha; omega) (by simp only [List.mem_cons, List.not_mem_nil, or_false] at ha; omega)
  · obtain ⟨⟨b1, b2⟩, ⟨o, o1, o2, o3, o4⟩, u, u1, u2⟩ := a9
    refine ⟨⟨by rw [eWI _ (by omega) (by omega), eI 5218 (by decide)]; exact b1, by rw [eWI _ (by omega) (by omega), eI 5219 (by decide)]; exact b2⟩, ⟨o, o1, by rw [eI 4906 (by decide)]; exact o2, by rw [eWI _ (by omega) (by omega)]; exact o3, fun i hi => by rw [eWA 106 (by omega) (by omega), eA 50 (by decide)]; exact o4 i hi⟩, u, u1, by rw [eWI _ (by omega) (by omega)]; exact u2⟩
  · obtain ⟨b1, b2, b3, b4, b5, b6, b7, b8, b9⟩ := hkp
    exact ⟨b1, fun i hi => (show sI (wI 6151 _ W0) i = sI W0 i from if_neg (by omega)).trans (b2 i hi), b3, b4, b5, b6, fun m zm hm hs j hj => ⟨(show sI (wI 6151 _ W0) (100 * m + j) = sI W0 (100 * m + j) from if_neg (by omega)).trans (b7 m zm hm hs j hj).1, (b7 m zm hm hs j hj).2⟩, b8, b9⟩
end
