/-! NAMES ON BOTH SIDES: a value is pushed, as a step; what is to be called is marked -/
section
variable {P : Nat → Prop} {T : cS} {gT : Nat} {Q : Nat → Prop} {β β' : Nat → Nat} {F : Nat → Nat → Nat → Prop} {loc par : Nat → Nat → Nat} {ty : Nat → Nat × Nat} {G : Nat → Nat → Nat → Nat × Nat × LL → Prop} {D D' K : List Nat} {z nn g0 g1 g3 g4 g5 gn d n m p p0 q pT k e y o oc v : Nat} {l2 : LL} {tq : Nat → Nat × Nat} {C r : List Lv} {x : Lv} {S S' S0 S1 X W Sc Sr : cS} {w : Nat → Int32} {St : (Nat → Prop) → cS → Prop} {ok : List Lv → Prop} {kd : Int32} {hi lo a b : Int64}
/-- behind a step that put a value in the place of v: any label that fits -/
theorem CI_K {h' : Nat} (h : CI F loc par ty G tq (x :: r) S) (hK : KX K S S') (hm : mHS 0 (gC (x :: r)) (vB x + h') S') (e : ∀ i, i < vB x → sL S' 47 i = sL S 47 i ∧ sL S' 48 i = sL S 48 i) (hmk : mkOk S' (vB x) h' l2) (hlb : lbo (h', vU x, l2)) (hsc : l2.2 = (vL x).2) (htr : ∀ e y l', l2.1 = e ++ (y, 0) :: l' → ∃ e', (vL x).1 = e' ++ (y, 0) :: l') (p q : Nat) : CI F loc par ty G tq (vAt x p q (h', vU x, l2) :: r) S' := by
  obtain ⟨a1, a2, a3, a4, a5, a6, a7, a8, a9⟩ := h
  have hlk := lv_KX hK
  have hE : ∀ o, lv S' o → obE S S' o := fun o ho => obE_KX hK (mHS_ok a1 o ho.1 ho.2.1) ((hlk o).mp ho).2
  have hk : ∀ o, lv S' o → sA S' 3 o = sA S 3 o := fun o ho => (hE o ho).1
  have hcl := mHS_cl hm
  have ht : topC (x :: r) = vB x + vH x := rfl
  have eA : ∀ a, a ∉ kxA → sA S' a = sA S a := fun a ha => hK.1.A ha
  have eI : ∀ i, i ∉ kxI → sI S' i = sI S i := fun i hi => hK.1.I hi
  have hsv : stLv (vB x) S' := fun i hi => hm.2.2.2.2.1 i (by omega)
  obtain ⟨m1, m2, m3⟩ := a3
  refine ⟨hm, rwL_KX a2 hK, ⟨hmk, hlb, stkC_K (n := vB x) m3 (fun y hy => by have := cCal_lo a5 y hy; omega) e hsv hk⟩, fun k hk' => ?_, ?_, ?_, ?_, ?_, fun q hq => ?_⟩
  · obtain ⟨b1, b2⟩ := a4 k ((hlk k).mp hk').1
    refine ⟨tyO_K b1 (hE k hk') (fun o ho => ⟨fun hm => ?_, hk o⟩), vlO_K b2 (hE k hk')⟩
    rw [← obE_tgs (hE k hk')] at hm
    exact (hcl k hk'.1 hk'.2.1 hk'.2.2 o hm).resolve_left (by have := ho.1; omega)
  · cases r with
    | nil => exact a5
    | cons y r => exact cCal_E (S := S) (C := vAt x p q (h', vU x, l2) :: y :: r) a5 (fun a ha => eA a (fun c => by revert ha c; revert a; decide))
  · have h6' : lvOk G ty S (vAt x p q (h', vU x, l2) :: r) := by
      obtain ⟨c1, c2, c3⟩ := a6
      rw [← hsc] at c1 c2
      exact ⟨c1, c2, c3⟩
    exact lvOk_K h6' (fun y hy => by
      obtain ⟨c1, c2⟩ := gC_pos hy
      exact ⟨fun c => hm.2.2.2.2.2.2.1 _ (c1 c), fun c => hm.2.2.2.2.2.2.1 _ (c2 c)⟩) hk
  · obtain ⟨b1, b2, b3, b4⟩ := a7
    exact ⟨by rw [eI 5213 (by decide)]; exact b1, by rw [eI 5214 (by decide)]; exact b2, by rw [eI 5215 (by decide)]; exact b3, b4⟩
  · have h8 : triC G tq S (vAt x p q (h', vU x, l2) :: r) := by
      obtain ⟨c1, c2⟩ := a8
      refine ⟨fun e' y l'' hl'' => ?_, c2⟩
      obtain ⟨e2, h2⟩ := htr e' y l'' hl''
      have := c1 e2 y l'' h2
      rw [← hsc] at this
      exact this
    exact triC_E h8 (eA 60 (by decide))
  · rw [hK.1.2.1 21 (by decide)]
    exact a9 q hq
/-- the reference likewise -/
theorem XR_K {h' : Nat} (h : XR P T gT Q β F D z nn g0 g1 g3 g4 g5 gn tq (x :: r) Sc Sr) (hcl : h_cl Sc) (hok : ∀ j, 1 ≤ j → j ≤ 1500 → h_ok Sc j) (hcal : cCal Sc (x :: r)) (hK : KX K Sc S') (e : ∀ i, i < vB x → sL S' 47 i = sL Sc 47 i ∧ sL S' 48 i = sL Sc 48 i) (hW : sFr (vB x + offC (x :: r)) Sr W) (h51 : sI W 6151 = nI (vB x + h' + offC (x :: r))) (hst : ∀ i, i < h' → vrel β (sL S' 47 (vB x + i)) (sL S' 48 (vB x + i)) (sA W 91 (vB x + i + offC (x :: r))) (sL W 92 (vB x + i + offC (x :: r))) (sL W 93 (vB x + i + offC (x :: r)))) : XR P T gT Q β F (D ++ K.map β) z nn g0 g1 g3 g4 g5 gn tq (vAt x (vP x) (vQ x) (h', vU x, vL x) :: r) S' W := by
  obtain ⟨a1, a2, a3, a4, a5, a6, a7, a8, a9, a10, a11⟩ := h
  have hgs := a3.2.2.2.2.2.2.2.1
  have hN := sFr_N hW ⟨hgs.1, hgs.2.1⟩
  have eI : ∀ i, i ∉ kxI → sI S' i = sI Sc i := fun i hi => hK.1.I hi
  have eA : ∀ a, a ∉ kxA → sA S' a = sA Sc a := fun a ha => hK.1.A ha
  have eWI : ∀ i, i ≠ 6151 → sI W i = sI Sr i := hW.2.2.2.2.2.1
  have eWA : ∀ a, a ≠ 91 → a ≠ 104 → a ≠ 104 → sA W a = sA Sr a := hW.2.2.2.2.2.2.1
  have eWL : ∀ a, a ≠ 92 → a ≠ 93 → sL W a = sL Sr a := hW.2.2.2.2.2.2.2.1
  refine ⟨HR_M (sFr_M hW) hN (HR_kill a1 hcl hok hK), ?_, rTb_E a3 hW.1 (fun i _ _ => by rw [hW.2.2.1]) (eWI _ (by decide)), ?_, ?_, ?_, triX_E (C := vAt x (vP x) (vQ x) (h', vU x, vL x) :: r) a7 (fun a ha => eWA a (fun c => by rw [c] at ha; revert ha; decide) (fun c => by rw [c] at ha; revert ha; decide) (fun c => by rw [c] at ha; revert ha; decide)), lnC_E (C := vAt x (vP x) (vQ x) (h', vU x, vL x) :: r) a8 (eA 55 (by decide)) (eI 5217 (by decide)) (eWA 98 (by decide) (by decide) (by decide)), ?_, rKp_s a10 a11 hW, a11⟩
  · exact NMw_E a2 (hK.1.2.1 21 (by decide)) (hK.1.2.1 22 (by decide)) (hK.1.2.1 17 (by decide)) (hK.1.2.1 18 (by decide)) hN (eWA g3 (nG_ne hgs.2.2.1 (by omega)) (nG_ne hgs.2.2.1 (by omega)) (nG_ne hgs.2.2.1 (by omega))) (eWL g4 (nG_ne hgs.2.2.2.1 (by omega)) (nG_ne hgs.2.2.2.1 (by omega))) (eWL g5 (nG_ne hgs.2.2.2.2 (by omega)) (nG_ne hgs.2.2.2.2 (by omega)))
  · obtain ⟨b1, b2, b3⟩ := a4
    have eo : offC (x :: r) = mkb x + offC r := rfl
    refine ⟨hst, fun hd => ?_, stkR_E (n := vB x) b3 (fun y hy => by have := cCal_lo hcal y hy; omega) e (fun i hi => hW.2.2.2.2.2.2.2.2 i (by omega))⟩
    have hm : mkb x = 1 := if_neg hd
    obtain ⟨d1, d2, d3⟩ := hW.2.2.2.2.2.2.2.2 (vB x + offC r) (by omega)
    show sA W 91 (vB x + offC r) = _ ∧ sL W 92 (vB x + offC r) = _
    rw [d1, d2]
    exact b2 hd
  · exact rCal_E (C := vAt x (vP x) (vQ x) (h', vU x, vL x) :: r) a5 (by rw [hW.2.1]) (fun a ha => eWA a (fun c => by rw [c] at ha; revert ha; decide) (fun c => by rw [c] at ha; revert ha; decide) (fun c => by rw [c] at ha; revert ha; decide))
  · obtain ⟨b1, b2, b3⟩ := a6
    exact ⟨h51, by rw [eWI _ (by decide)]; exact b2, by rw [eWI _ (by decide)]; exact b3⟩
  · obtain ⟨⟨b1, b2⟩, ⟨o, o1, o2, o3, o4⟩, u, u1, u2⟩ := a9
    refine ⟨⟨by rw [eWI _ (by decide), eI 5218 (by decide)]; exact b1, by rw [eWI _ (by decide), eI 5219 (by decide)]; exact b2⟩, ⟨o, o1, by rw [eI 4906 (by decide)]; exact o2, by rw [eWI _ (by decide)]; exact o3, fun i hi => by rw [eWA 106 (by decide) (by decide) (by decide), eA 50 (by decide)]; exact o4 i hi⟩, u, u1, by rw [eWI _ (by decide)]; exact u2⟩
/-- a value pushed: its label -/
def pshL (hi : Int64) (x : Lv) (l2 : LL) : Prop := (l2 = vL x ∧ c_kind hi ≠ nI 5) ∨ l2 = lcl (vH x) (vL x)
theorem CI_psh (h : CI F loc par ty G tq (x :: r) S) (hK : KX [] S S') (hm : mHS 0 (gC (x :: r)) (topC (x :: r) + 1) S') (e : ∀ i, i < topC (x :: r) → sL S' 47 i = sL S 47 i ∧ sL S' 48 i = sL S 48 i) (e1 : sL S' 47 (topC (x :: r)) = hi) (hl2 : pshL hi x l2) (h6 : vH x + 1 ≤ 600) (h0 : c_kind hi ≠ 0) (p q : Nat) : CI F loc par ty G tq (vAt x p q (vH x + 1, vU x, l2) :: r) S' := by
  have hlb := CI_lob h
  rcases hl2 with ⟨c1, c2⟩ | c1
  · subst c1
    have := CI_give h hK (v := 0) (Nat.zero_le _) hm e e1 (by omega) (by omega) ⟨h0, c2⟩ p q
    exact this
  · subst c1
    obtain ⟨m1, m2, m3⟩ := h.2.2.1
    obtain ⟨l1, l2, l3, l4, l5⟩ := m2
    have hk : ∀ o, lv S' o → sA S' 3 o = sA S 3 o := fun o ho => (obE_KX hK (mHS_ok h.1 o ho.1 ho.2.1) ((lv_KX hK o).mp ho).2).1
    have hsv : stLv (topC (x :: r)) S' := fun i hi => hm.2.2.2.2.1 i (by omega)
    have ht : topC (x :: r) = vB x + vH x := rfl
    have hlow := mkOk_K (S' := S') (h := vH x) (n := topC (x :: r)) (l := vL x) (b := vB x) m1 (by omega) (by omega) l2 e hsv hk
    refine CI_K (h' := vH x + 1) (l2 := lcl (vH x) (vL x)) h hK (by rw [ht, Nat.add_assoc] at hm; exact hm) (fun i hi => e i (by omega)) ⟨fun i hi => ?_, fun z hz => ?_⟩ ⟨?_, ⟨by show lob (vL x) ≤ vH x; omega, l2⟩, Nat.le_refl _, h6, l5⟩ rfl (fun e' z l'' hl'' => ?_) p q
    · have hi' : i < vH x + 1 := by omega
      by_cases c : i < vH x
      · exact ⟨(hlow.1 i c).1, fun c' => List.mem_cons_of_mem _ ((hlow.1 i c).2 c')⟩
      · have e3 : i = vH x := by omega
        subst e3
        refine ⟨?_, fun _ => List.mem_cons_self⟩
        rw [← ht, e1]
        exact h0
    · have hz' : (z, 2) ∈ (vH x, 1) :: (vL x).1 := hz
      rcases List.mem_cons.mp hz' with c | c
      · injection c with _ c2
        exact absurd c2 (by decide)
      · exact hlow.2 z c
    · have l1' : vU x = tms (vL x).1 := l1
      show vU x = (if (1 : Nat) = 0 then 1 else 0) + tms (vL x).1
      rw [if_neg (by omega)]
      omega
    · have hl3 : (vH x, 1) :: (vL x).1 = e' ++ (z, 0) :: l'' := hl''
      cases e' with
      | nil =>
        have h2 : (vH x, 1) :: (vL x).1 = (z, 0) :: l'' := hl3
        injection h2 with h3 _
        injection h3 with _ h4
        exact absurd h4 (by omega)
      | cons a e' =>
        have h2 : (vH x, 1) :: (vL x).1 = a :: (e' ++ (z, 0) :: l'') := hl3
        injection h2 with _ h3
        exact ⟨e', h3⟩
theorem XR_psh {p q u w : Nat} (hX : XR P T gT Q β F D z nn g0 g1 g3 g4 g5 gn tq (vAt x p q (w, u, vL x) :: r) Sc Sr) (hl2 : pshL hi x l2) : XR P T gT Q β F D z nn g0 g1 g3 g4 g5 gn tq (vAt x p q (w, u, l2) :: r) Sc Sr := by
  rcases hl2 with ⟨c1, c2⟩ | c1
  · subst c1
    exact hX
  · subst c1
    obtain ⟨a1, a2, a3, a4, a5, a6, a7, a8, a9, a10, a11⟩ := hX
    refine ⟨a1, a2, a3, a4, a5, a6, ?_, a8, a9, a10, a11⟩
    obtain ⟨c1, c2⟩ := a7
    refine ⟨fun e' z l'' hl'' => ?_, c2⟩
    have hl3 : (vH x, 1) :: (vL x).1 = e' ++ (z, 0) :: l'' := hl''
    cases e' with
    | nil =>
      have h2 : (vH x, 1) :: (vL x).1 = (z, 0) :: l'' := hl3
      injection h2 with h3 _
      injection h3 with _ h4
      exact absurd h4 (by omega)
    | cons a e' =>
      have h2 : (vH x, 1) :: (vL x).1 = a :: (e' ++ (z, 0) :: l'') := hl3
      injection h2 with _ h3
      exact c1 e' z l'' h3
/-- the frames behind the operands -/
theorem CI_opd (h : CI F loc par ty G tq (x :: r) S) (hS1 : S1 = wI 5216 (nI p0) S) (p q : Nat) : CI F loc par ty G tq (vAt x p q (vS x) :: r) S1 := by rw [hS1]; exact CI_pl (CI_at h _ _)
theorem XR_opd (hX : XR P T gT Q β F D z nn g0 g1 g3 g4 g5 gn tq (x :: r) S Sr) (hS1 : S1 = wI 5216 (nI p0) S) (hq : q < 2 ^ 20) (p : Nat) : XR P T gT Q β F D z nn g0 g1 g3 g4 g5 gn tq (vAt x p q (vS x) :: r) S1 (wA 95 r.length (nI q) Sr) := by rw [hS1]; exact XR_pl (XR_at hX hq p)
/-- a value pushed by both -/
theorem psh_S (h : CI F loc par ty G tq (x :: r) S) (hpc : PC w pT S) (hck : clk S) (hoc : 16 ≤ oc ∧ oc ≤ 24) (hr1 : Ans (d + 21) 127 [.ref 52] S (some (.int (nI oc))) S0) (hS1 : S1 = wI 5216 (nI p0) S) (hC : ∀ S', PC w pT S' → sI S' 5216 = nI p0 → Ans (d + 2) 153 [.ref 46, .long hi, .long lo] S1 none S' → Ans (d + 21) 161 [.ref 52, .int (nI oc)] S0 (some (.int (nI 0))) (wI 5216 (nI p) S')) (ho : c_obj hi lo = nI o) (ho2 : o ≤ 1500) (hol : o = 0 ∨ lv S o) (h0 : c_kind hi ≠ 0) (hl2 : pshL hi x l2) (h6 : vH x + 1 ≤ 600) (hq : q < 2 ^ 20) (hR : ∀ P T gT Q β D z nn g0 g1 g3 g4 g5 gn Sr, St P T → XR P T gT Q β F D z nn g0 g1 g3 g4 g5 gn tq (x :: r) S Sr → ∃ kd a b, vrel β hi lo kd a b ∧ ∀ W, Ans (d + 9) 352 [.ref 61, .int kd, .long a, .long b] (wA 95 r.length (nI q) Sr) none W → ∃ n, rRn (d + 22) n Sr 1 W) (hok : ok (vAt x p q (vH x + 1, vU x, l2) :: r)) : stp St F loc par G tq w pT (d + 21) (x :: r) S ok := by
  obtain ⟨l1, l3, l4, l5, l6⟩ := CI_len h
  have hT := CI_T h
  have h1 := CI_opd h hS1 p q
  have hp1 : PC w pT S1 := by rw [hS1]; exact PC_I hpc (by decide)
  have hk1 : clk S1 := by rw [hS1]; exact clk_I hck (by decide) (by decide)
  have hF1 : CFw S S1 := by rw [hS1]; exact CFw_I (by decide)
  have h51 : sI S1 5216 = nI p0 := by rw [hS1]; exact rIe _ _ _
  have hol1 : o = 0 ∨ lv S1 o := by rw [hS1]; exact hol
  obtain ⟨S', b1, b2, b3, b4, b5, b6⟩ := mpush_T (d := d) (hi := hi) (lo := lo) h1.1 (by show topC (x :: r) < 20480; omega) ho ho2 hol1 (Or.inl rfl) (fun k => by have := gC_le (C := vAt x p q (vS x) :: r) k; rw [List.length_cons] at this; omega)
  have hC1 := CI_psh h1 b3 b2 b4 b5 hl2 h6 h0 p q
  have hFr : CFr S1 S' := CFr_KX b3
  have hp2 := PC_r hp1 hFr
  have h52 : sI S' 5216 = nI p0 := (hFr.2.2.1 5216 (by decide)).trans h51
  have ht : tnC (d + 21) S (wI 5216 (nI p) S') := by
    intro tn v Sf
    exact flw_N (d := d + 13) hr1 hoc (hC S' hp2 h52 b1)
  refine Or.inl ⟨ty, tq, _, _, hok, ht, CI_pl hC1, ⟨rIe _ _ _, PC_I hp2 (by decide), clk_I (clk_r hk1 hFr) (by decide) (by decide), (hF1.trans hFr.w).trans (CFw_I (by decide))⟩, fun P T gT Q β D z nn g0 g1 g3 g4 g5 gn Sr hS hX => ?_⟩
  obtain ⟨kd, a, b, hv, hn⟩ := hR P T gT Q β D z nn g0 g1 g3 g4 g5 gn Sr hS hX
  have hX1 := XR_opd hX hS1 hq p
  have e51 : sI (wA 95 r.length (nI q) Sr) 6151 = nI (topC (x :: r) + offC (x :: r)) := by have e := XR_51 hX; exact e
  have hpi := rpush_T (d := d) (t := topC (x :: r) + offC (x :: r)) (kd := kd) (xa := a) (xb := b) (S := wA 95 r.length (nI q) Sr) e51 (by omega)
  have hpw : wI 6151 (nI (topC (x :: r) + offC (x :: r) + 1)) (wL 93 (topC (x :: r) + offC (x :: r)) b (wL 92 (topC (x :: r) + offC (x :: r)) a (wA 91 (topC (x :: r) + offC (x :: r)) kd (wA 95 r.length (nI q) Sr)))) = pshW (topC (x :: r) + offC (x :: r)) kd a b (wA 95 r.length (nI q) Sr) := by
    unfold pshW
    rw [wI_id e51]
  rw [hpw] at hpi
  obtain ⟨p1, p2, p3, p4, p5⟩ := pshW_s (tp := topC (x :: r) + offC (x :: r)) (kd := kd) (xa := a) (xb := b) (S := wA 95 r.length (nI q) Sr)
  have hX2 := XR_give hX1 (mHS_cl h1.1) (mHS_ok h1.1) h1.2.2.2.2.1 b3 (Nat.zero_le _) b4 b5 b6 (tp := topC (x :: r) + offC (x :: r)) (by show _ = topC (x :: r) - 0 + offC (x :: r); omega) p1 p2 (by rw [p3, p4, p5]; exact hv)
  have hX3 : XR P T gT Q β F (D ++ List.map β []) z nn g0 g1 g3 g4 g5 gn tq (vAt x p q (vH x + 1, vU x, vL x) :: r) S' (pshW (topC (x :: r) + offC (x :: r)) kd a b (wA 95 r.length (nI q) Sr)) := hX2
  exact ⟨Q, β, _, nn, g0, g1, g3, g4, g5, gn, _, hn _ hpi, XR_pl (XR_psh hX3 hl2)⟩
end
