/-! CALLS THAT END: what holds of the calls that are left, on both sides -/
/-- what both sides agree on beside the calls -/
def XC (P : Nat → Prop) (T : cS) (gT : Nat) (Q : Nat → Prop) (β : Nat → Nat) (F : Nat → Nat → Nat → Prop) (D : List Nat) (z nn g0 g1 g3 g4 g5 gn : Nat) (Sc Sr : cS) : Prop := HR Q β F D Sc Sr g0 g1 nn ∧ NMw F β Sc Sr z nn g0 g1 g3 g4 g5 ∧ rTb Q Sr nn g0 g1 g3 g4 g5 gn ∧ rMs Sc Sr ∧ rKp P T gT gn Sr ∧ pQ P Q g0 g1 g3 g4 g5
section
variable {P : Nat → Prop} {T : cS} {gT : Nat} {Q : Nat → Prop} {β β' : Nat → Nat} {F : Nat → Nat → Nat → Prop} {loc par : Nat → Nat → Nat} {ty : Nat → Nat × Nat} {G : Nat → Nat → Nat → Nat × Nat × LL → Prop} {D D' K : List Nat} {z nn g0 g1 g3 g4 g5 gn d n m p q p' q' pT k e e1 oc ln tp h' u' : Nat} {l2 : LL} {tq : Nat → Nat × Nat} {C r : List Lv} {x y : Lv} {S S' S1 X W Sc Sr : cS}
theorem stkC_dr : ∀ {L : List Lv}, stkC S (L ++ C) → stkC S C
  | [], h => h
  | _ :: _, h => stkC_dr h.2.2
theorem triC_dr : ∀ {L : List Lv}, triC G tq S (L ++ C) → triC G tq S C
  | [], h => h
  | _ :: _, h => triC_dr h.2
theorem triX_dr : ∀ {L : List Lv}, triX tq S (L ++ C) → triX tq S C
  | [], h => h
  | _ :: _, h => triX_dr h.2
theorem lvOk_dr : ∀ {L : List Lv}, lvOk G ty S (L ++ C) → lvOk G ty S C
  | [], h => h
  | _ :: _, h => lvOk_dr h.2.2.2.2
theorem stkR_dr : ∀ {L : List Lv}, stkR β S Sr (L ++ C) → stkR β S Sr C
  | [], h => h
  | _ :: _, h => stkR_dr h.2.2
theorem rCal_dr : ∀ {L : List Lv}, rCal β S (L ++ C) → rCal β S C
  | [], h => h
  | _ :: _, h => rCal_dr h.2
theorem cCal_dr : ∀ {L : List Lv}, cCal S (L ++ x :: r) → cCal S (x :: r)
  | [], h => h
  | [_], h => h.2
  | _ :: b :: L, h => cCal_dr (L := b :: L) h.2
theorem cRg_len {L : List Lv} (h : cRg S (L ++ x :: r)) : r.length ≤ 30 := by
  cases L with
  | nil => exact h.2.2.2
  | cons a L =>
    have h1 : (L ++ x :: r).length ≤ 30 := h.2.2.2
    rw [List.length_append, List.length_cons] at h1
    omega
/-- the calls that are left, of the class -/
theorem CI_lvg {L : List Lv} {xm : Nat} {g : Nat → Nat} (h : CIg xm g F loc par ty G tq (L ++ x :: r) S) (hE : ∀ o, lv S' o → lv S o ∧ obE S S' o) (hrw : rwL S') (hm : mHS 0 (gC (x :: r)) (vB x + h') S') (hA : ∀ a, a ∈ [54, 56, 57, 58, 59, 60] → sA S' a = sA S a) (h21 : sL S' 21 = sL S 21) (e : ∀ i, i < vB x → sL S' 47 i = sL S 47 i ∧ sL S' 48 i = sL S 48 i) (hmk : mkOk S' (vB x) h' l2) (hlb : lbo (h', u', l2)) (hsc : l2.2 = (vL x).2) (htr : ∀ e y l', l2.1 = e ++ (y, 0) :: l' → ∃ e', (vL x).1 = e' ++ (y, 0) :: l') (hrg : sI S' 5213 = nI r.length ∧ sI S' 5214 = nI (vT x + u') ∧ sI S' 5215 = nI (vF x)) (p q : Nat) : CI F loc par ty G tq (vAt x p q (h', u', l2) :: r) S' := by
  obtain ⟨a1, a2, a3, a4, a5, a6, a7, a8, a9⟩ := h
  have hk : ∀ o, lv S' o → sA S' 3 o = sA S 3 o := fun o ho => (hE o ho).2.1
  have hcl := mHS_cl hm
  have hsv : stLv (vB x) S' := fun i hi => hm.2.2.2.2.1 i (by omega)
  have a5' := cCal_dr a5
  obtain ⟨m1, m2, m3⟩ := stkC_dr a3
  have a6' := lvOk_dr a6
  have a8' := triC_dr a8
  refine ⟨hm, hrw, ⟨hmk, hlb, stkC_K (n := vB x) m3 (fun y hy => by have := cCal_lo a5' y hy; omega) e hsv hk⟩, fun k hk' => ?_, ?_, ?_, ?_, ?_, fun q hq => ?_⟩
  · obtain ⟨b1, b2⟩ := a4 k (hE k hk').1
    refine ⟨tyO_K b1 (hE k hk').2 (fun o ho => ⟨fun hm => ?_, hk o⟩), vlO_K b2 (hE k hk').2⟩
    rw [← obE_tgs (hE k hk').2] at hm
    exact (hcl k hk'.1 hk'.2.1 hk'.2.2 o hm).resolve_left (by have := ho.1; omega)
  · have e5 : ∀ a, a ∈ [54, 56, 57, 58, 59] → sA S' a = sA S a := fun a ha => hA a (by simp only [List.mem_cons, List.not_mem_nil, or_false] at ha ⊢; omega)
    cases r with
    | nil => exact a5'
    | cons y r => exact cCal_E (S := S) (C := vAt x p q (h', u', l2) :: y :: r) a5' e5
  · have h6' : lvOk G ty S (vAt x p q (h', u', l2) :: r) := by
      obtain ⟨c1, c2, c3⟩ := a6'
      rw [← hsc] at c1 c2
      exact ⟨c1, c2, c3⟩
    exact lvOk_K h6' (fun y hy => by
      obtain ⟨c1, c2⟩ := gC_pos hy
      exact ⟨fun c => hm.2.2.2.2.2.2.1 _ (c1 c), fun c => hm.2.2.2.2.2.2.1 _ (c2 c)⟩) hk
  · exact ⟨hrg.1, hrg.2.1, hrg.2.2, cRg_len a7⟩
  · have h8 : triC G tq S (vAt x p q (h', u', l2) :: r) := by
      obtain ⟨c1, c2⟩ := a8'
      refine ⟨fun e' y l'' hl'' => ?_, c2⟩
      obtain ⟨e2, h2⟩ := htr e' y l'' hl''
      have := c1 e2 y l'' h2
      rw [← hsc] at this
      exact this
    exact triC_E h8 (hA 60 (by decide))
  · rw [h21]
    exact a9 q hq
theorem CI_lv {L : List Lv} (h : CI F loc par ty G tq (L ++ x :: r) S) (hE : ∀ o, lv S' o → lv S o ∧ obE S S' o) (hrw : rwL S') (hm : mHS 0 (gC (x :: r)) (vB x + h') S') (hA : ∀ a, a ∈ [54, 56, 57, 58, 59, 60] → sA S' a = sA S a) (h21 : sL S' 21 = sL S 21) (e : ∀ i, i < vB x → sL S' 47 i = sL S 47 i ∧ sL S' 48 i = sL S 48 i) (hmk : mkOk S' (vB x) h' l2) (hlb : lbo (h', u', l2)) (hsc : l2.2 = (vL x).2) (htr : ∀ e y l', l2.1 = e ++ (y, 0) :: l' → ∃ e', (vL x).1 = e' ++ (y, 0) :: l') (hrg : sI S' 5213 = nI r.length ∧ sI S' 5214 = nI (vT x + u') ∧ sI S' 5215 = nI (vF x)) (p q : Nat) : CI F loc par ty G tq (vAt x p q (h', u', l2) :: r) S' := CI_lvg (xm := 0) (g := gC (L ++ x :: r)) h hE hrw hm hA h21 e hmk hlb hsc htr hrg p q
theorem XR_XC (h : XR P T gT Q β F D z nn g0 g1 g3 g4 g5 gn tq C Sc Sr) : XC P T gT Q β F D z nn g0 g1 g3 g4 g5 gn Sc Sr := ⟨h.1, h.2.1, h.2.2.1, h.2.2.2.2.2.2.2.2.1, h.2.2.2.2.2.2.2.2.2.1, h.2.2.2.2.2.2.2.2.2.2⟩
theorem XRe_XC (h : XRe P T gT Q β F D z nn g0 g1 g3 g4 g5 gn tq x r Sc Sr) : XC P T gT Q β F D z nn g0 g1 g3 g4 g5 gn Sc Sr := ⟨h.1, h.2.1, h.2.2.1, h.2.2.2.2.2.2.2.2.1, h.2.2.2.2.2.2.2.2.2.1, h.2.2.2.2.2.2.2.2.2.2⟩
theorem XC_I {i : Nat} {n : Int32} (h : XC P T gT Q β F D z nn g0 g1 g3 g4 g5 gn Sc Sr) (hi : i ∈ [6151, 6159, 6163, 6164, 6167]) : XC P T gT Q β F D z nn g0 g1 g3 g4 g5 gn Sc (wI i n Sr) := by
  obtain ⟨a1, a2, a3, a9, a10, a11⟩ := h
  simp only [List.mem_cons, List.not_mem_nil, or_false] at hi
  have eI : ∀ j, j ≠ i → sI (wI i n Sr) j = sI Sr j := fun j hj => if_neg hj
  have hN : tnE Sr (wI i n Sr) g0 g1 := ⟨rfl, rfl, rfl, rfl⟩
  refine ⟨HR_M (rM_I (by omega) (rM.refl _)) hN a1, NMw_E a2 rfl rfl rfl rfl hN rfl rfl rfl, rTb_E a3 rfl (fun _ _ _ => rfl) (eI _ (by omega)), ?_, ?_, a11⟩
  · obtain ⟨⟨b1, b2⟩, ⟨o, o1, o2, o3, o4⟩, u, u1, u2⟩ := a9
    exact ⟨⟨by rw [eI _ (by omega)]; exact b1, by rw [eI _ (by omega)]; exact b2⟩, ⟨o, o1, o2, by rw [eI _ (by omega)]; exact o3, o4⟩, u, u1, by rw [eI _ (by omega)]; exact u2⟩
  · obtain ⟨b1, b2, b3, b4, b5, b6, b7, b8, b9⟩ := a10
    exact ⟨b1, fun j hj => by rw [eI _ (by omega)]; exact b2 j hj, b3, b4, b5, b6, fun m zm hm hs j hj => ⟨by rw [eI _ (by omega)]; exact (b7 m zm hm hs j hj).1, (b7 m zm hm hs j hj).2⟩, b8, b9⟩
theorem XC_s (h : XC P T gT Q β F D z nn g0 g1 g3 g4 g5 gn Sc Sr) (hW : sFr tp Sr W) : XC P T gT Q β F D z nn g0 g1 g3 g4 g5 gn Sc W := by
  obtain ⟨a1, a2, a3, a9, a10, a11⟩ := h
  have hgs := a3.2.2.2.2.2.2.2.1
  have hN := sFr_N hW ⟨hgs.1, hgs.2.1⟩
  have eWI : ∀ i, i ≠ 6151 → sI W i = sI Sr i := hW.2.2.2.2.2.1
  have eWA : ∀ a, a ≠ 91 → a ≠ 104 → a ≠ 104 → sA W a = sA Sr a := hW.2.2.2.2.2.2.1
  have eWL : ∀ a, a ≠ 92 → a ≠ 93 → sL W a = sL Sr a := hW.2.2.2.2.2.2.2.1
  refine ⟨HR_M (sFr_M hW) hN a1, ?_, rTb_E a3 hW.1 (fun i _ _ => by rw [hW.2.2.1]) (eWI _ (by decide)), ?_, rKp_s a10 a11 hW, a11⟩
  · exact NMw_E a2 rfl rfl rfl rfl hN (eWA g3 (nG_ne hgs.2.2.1 (by omega)) (nG_ne hgs.2.2.1 (by omega)) (nG_ne hgs.2.2.1 (by omega))) (eWL g4 (nG_ne hgs.2.2.2.1 (by omega)) (nG_ne hgs.2.2.2.1 (by omega))) (eWL g5 (nG_ne hgs.2.2.2.2 (by omega)) (nG_ne hgs.2.2.2.2 (by omega)))
  · obtain ⟨⟨b1, b2⟩, ⟨o, o1, o2, o3, o4⟩, u, u1, u2⟩ := a9
    exact ⟨⟨by rw [eWI _ (by omega)]; exact b1, by rw [eWI _ (by omega)]; exact b2⟩, ⟨o, o1, o2, by rw [eWI _ (by omega)]; exact o3, fun i hi => by rw [eWA _ (by omega) (by omega) (by omega)]; exact o4 i hi⟩, u, u1, by rw [eWI _ (by omega)]; exact u2⟩
/-- an array of the reference's calls -/
theorem XC_A {a i : Nat} {n : Int32} (h : XC P T gT Q β F D z nn g0 g1 g3 g4 g5 gn Sc Sr) (ha : a = 95 ∨ a = 98) : XC P T gT Q β F D z nn g0 g1 g3 g4 g5 gn Sc (wA a i n Sr) := by
  obtain ⟨a1, a2, a3, a9, a10, a11⟩ := h
  have hgs := a3.2.2.2.2.2.2.2.1
  have hgq := a3.2.2.2.2.2.2.1
  have eA : ∀ b, b ≠ a → sA (wA a i n Sr) b = sA Sr b := fun b hb => if_neg hb
  have ng : ∀ {g : Nat}, nG g → g ≠ a := fun hg => nG_ne hg (by omega)
  have hN : tnE Sr (wA a i n Sr) g0 g1 := ⟨eA _ (ng hgs.1), eA _ (ng hgs.2.1), rfl, rfl⟩
  refine ⟨HR_M (rM_A (by omega) (rM.refl _)) hN a1, NMw_E a2 rfl rfl rfl rfl hN (eA _ (ng hgs.2.2.1)) rfl rfl, rTb_E a3 rfl (fun _ _ _ => rfl) rfl, ?_, ?_, a11⟩
  · obtain ⟨b, ⟨o, o1, o2, o3, o4⟩, c⟩ := a9
    exact ⟨b, ⟨o, o1, o2, o3, fun i hi => by rw [eA _ (by omega)]; exact o4 i hi⟩, c⟩
  · obtain ⟨b1, b2, b3, b4, b5, b6, b7, b8, b9⟩ := a10
    exact ⟨b1, b2, b3, b4, fun c hc => ⟨by rw [eA c (by have := (a11.1 c hc).2; omega)]; exact (b5 c hc).1, (b5 c hc).2⟩, b6, b7, b8, b9⟩
/-- the class's heap goes on -/
theorem XC_K (h : XC P T gT Q β F D z nn g0 g1 g3 g4 g5 gn Sc Sr) (hcl : h_cl Sc) (hok : ∀ j, 1 ≤ j → j ≤ 1500 → h_ok Sc j) (hK : KXr K Sc S') : XC P T gT Q β F (D ++ K.map β) z nn g0 g1 g3 g4 g5 gn S' Sr := by
  obtain ⟨a1, a2, a3, a9, a10, a11⟩ := h
  obtain ⟨Y, k1, k2⟩ := hK
  have eA := rg_A k2
  have eL := rg_L k2
  have elv : ∀ o, lv S' o ↔ lv Y o := fun o => by unfold lv; rw [eA]
  have hL : ∀ a, a ≠ 47 → a ≠ 48 → sL S' a = sL Sc a := fun a h1 h2 => by rw [eL]; exact k1.1.2.1 a (by simp only [List.mem_cons, List.not_mem_nil, or_false]; omega)
  have hI : ∀ i, i ∉ rgI → i ∉ kxI → sI S' i = sI Sc i := fun i h1 h2 => (k2.I h1).trans (k1.1.I h2)
  refine ⟨HR_c (HR_kill a1 hcl hok k1) elv (fun j _ => obE_rg k2 j), NMw_E a2 (hL 21 (by decide) (by decide)) (hL 22 (by decide) (by decide)) (hL 17 (by decide) (by decide)) (hL 18 (by decide) (by decide)) ⟨rfl, rfl, rfl, rfl⟩ rfl rfl rfl, a3, ?_, a10, a11⟩
  obtain ⟨⟨b1, b2⟩, ⟨o, o1, o2, o3, o4⟩, u⟩ := a9
  exact ⟨⟨by rw [hI _ (by decide) (by decide)]; exact b1, by rw [hI _ (by decide) (by decide)]; exact b2⟩, ⟨o, o1, by rw [hI _ (by decide) (by decide)]; exact o2, o3, fun i hi => by rw [eA, k1.1.A (by decide)]; exact o4 i hi⟩, u⟩
/-- the calls that are left, of both -/
theorem XR_lv (hC : XC P T gT Q β F D z nn g0 g1 g3 g4 g5 gn S' W) (h4 : stkR β Sc Sr (x :: r)) (h5 : rCal β Sr (x :: r)) (h7 : triX tq Sr (x :: r)) (hcal : cCal Sc (x :: r)) (h8 : ∀ i, i < r.length → ∃ e, e < 2 ^ 20 ∧ sA S' 55 i = nI e ∧ sA W 98 i = nI e) (h8t : ∃ e, e < 2 ^ 20 ∧ sI S' 5217 = nI e ∧ sA W 98 r.length = nI e) (e : ∀ i, i < vB x → sL S' 47 i = sL Sc 47 i ∧ sL S' 48 i = sL Sc 48 i) (eW : ∀ i, i < vB x + offC (x :: r) → sA W 91 i = sA Sr 91 i ∧ sL W 92 i = sL Sr 92 i ∧ sL W 93 i = sL Sr 93 i) (eQ : sQ W 94 = sQ Sr 94) (eA : ∀ a, a ∈ [96, 97, 99, 100, 101, 102, 103] → sA W a = sA Sr a) (e95 : (∀ i, i ≠ r.length → sA W 95 i = sA Sr 95 i) ∧ sA W 95 r.length = nI q) (hq : q < 2 ^ 20) (hst : ∀ i, i < h' → vrel β (sL S' 47 (vB x + i)) (sL S' 48 (vB x + i)) (sA W 91 (vB x + i + offC (x :: r))) (sL W 92 (vB x + i + offC (x :: r))) (sL W 93 (vB x + i + offC (x :: r)))) (hrg : sI W 6151 = nI (vB x + h' + offC (x :: r)) ∧ sI W 6159 = nI (r.length + 1) ∧ sI W 6163 = nI (vT x + u')) (htr : ∀ e y l', l2.1 = e ++ (y, 0) :: l' → ∃ e', (vL x).1 = e' ++ (y, 0) :: l') (p : Nat) : XR P T gT Q β F D z nn g0 g1 g3 g4 g5 gn tq (vAt x p q (h', u', l2) :: r) S' W := by
  obtain ⟨a1, a2, a3, a9, a10, a11⟩ := hC
  refine ⟨a1, a2, a3, ?_, ?_, hrg, ?_, ⟨h8, h8t⟩, a9, a10, a11⟩
  · obtain ⟨b1, b2, b3⟩ := h4
    have eo : offC (x :: r) = mkb x + offC r := rfl
    refine ⟨hst, fun hd => ?_, stkR_E (n := vB x) b3 (fun y hy => by have := cCal_lo hcal y hy; omega) e (fun i hi => eW i (by omega))⟩
    have hm : mkb x = 1 := if_neg hd
    obtain ⟨d1, d2, d3⟩ := eW (vB x + offC r) (by omega)
    show sA W 91 (vB x + offC r) = _ ∧ sL W 92 (vB x + offC r) = _
    rw [d1, d2]
    exact b2 hd
  · obtain ⟨⟨b1, b2, b3, b4, b5, b6, b7⟩, b8⟩ := h5
    refine ⟨⟨by rw [eQ]; exact b1, e95.2, by rw [eA 96 (by decide)]; exact b3, fun hr => by rw [eA 97 (by decide)]; exact b4 hr, by rw [eA 99 (by decide)]; exact b5, by rw [eA 100 (by decide)]; exact b6, hq⟩, rCal_X b8 (fun i _ => by rw [eQ]) (fun a ha i hi => ?_)⟩
    by_cases c : a = 95
    · rw [c]
      exact e95.1 i (by omega)
    · rw [eA a (by simp only [List.mem_cons, List.not_mem_nil, or_false] at ha ⊢; omega)]
  · obtain ⟨c1, c2⟩ := h7
    have h7' : triX tq Sr (vAt x p q (h', u', l2) :: r) := by
      refine ⟨fun e' y l'' hl'' => ?_, c2⟩
      obtain ⟨e2, h2⟩ := htr e' y l'' hl''
      exact c1 e2 y l'' h2
    exact triX_E h7' (fun a ha => eA a (by simp only [List.mem_cons, List.not_mem_nil, or_false] at ha ⊢; omega))
end
