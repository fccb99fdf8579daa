/-! CALLS, THE CLASS: enter as a whole -/
section
variable {F : Nat → Nat → Nat → Prop} {loc par : Nat → Nat → Nat} {ty : Nat → Nat × Nat} {G : Nat → Nat → Nat → Nat × Nat × LL → Prop} {d n m p q k j f s o t i e z y u v kd md gv fn se np nl st a ln t0 : Nat} {l' : List (Nat × Nat)} {g g' : Nat → Nat} {tq : Nat → Nat × Nat} {r : List Lv} {x : Lv} {S S' S1 X W : cS} {hi lo : Int64}
/-- 1 for an instance ahead of the values -/
def f1O (se : Nat) : Nat := if se = 0 then 0 else 1
theorem frH_at {se n0 : Nat} (hn : n0 < gv) : frH S se n gv t0 (n + n0) = sL S 47 (t0 + n0) ∧ frL S se n gv t0 (n + n0) = sL S 48 (t0 + n0) := by
  unfold frH frL
  have h1 : ¬ n + n0 < n := by omega
  have h2 : n + n0 < n + gv := by omega
  have h3 : n + n0 - n = n0 := by omega
  rw [if_neg h1, if_neg h1, if_pos h2, if_pos h2, h3]
  exact ⟨rfl, rfl⟩
theorem mHS_up (h : mHS k g t S) (hg : 0 < g k) : mHS 0 g t S := ⟨h.1, fun j hj _ => by
  by_cases c : j = k
  · subst c; omega
  · exact h.2.1 j hj c, h.2.2⟩
theorem frN_v (h : frN S X se n gv t0 k z) (hz : z < 2 ^ 20) : h_kd X k = 7 ∧ h_n X k = z ∧ ∀ e, e < z → h_hi X k e = frH S se n gv t0 e ∧ h_lo X k e = frL S se n gv t0 e := by
  obtain ⟨f3, f10, fv⟩ := h
  have ek := kd_of f3 (by omega)
  refine ⟨ek, ?_, fun e he => ?_⟩
  · unfold h_n h_z
    rw [ek, f10, gN_nI (by omega), if_neg (by decide)]
  · have e1 : h_at 2 e = 2 * e := by unfold h_at; omega
    have cw : c_width 7 = 2 := rfl
    unfold h_hi h_lo
    rw [ek, cw, e1]
    exact fv e he
theorem CFw_Ax {w : Nat} {v : Int32} (ha : a ∈ cfA1) : CFw S (wA a w v S) := ⟨rfl, rfl, fun _ _ => rfl, fun b hb => if_neg (fun c => hb (by rw [c]; exact ha)), fun _ _ _ => rfl, fun _ _ _ _ => rfl, fun _ _ => rfl, ⟨[], (List.append_nil _).symm⟩, fun _ _ _ h => Or.inl h, Nat.le_refl _, Nat.le_refl _⟩
theorem entW_w {cl p ln b tr fr md op a : Nat} {S : cS} : CFw S (entW cl p ln b tr fr md op a S) := ((((((((CFw_Ax (by decide)).trans (CFw_Ax (by decide))).trans (CFw_Ax (by decide))).trans (CFw_Ax (by decide))).trans (CFw_Ax (by decide))).trans (CFw_Ax (by decide))).trans (CFw_I (by decide))).trans (CFw_I (by decide))).trans (CFw_I (by decide))
theorem startOf_e (h : sA S 27 q = nI st) (hq : q < 900) : Ans (d + 2) 263 [.ref 23, .int (nI q)] S (some (.int (nI st))) S := by
  rw [← h]
  exact startOf_T hq
theorem entW_e {cl p ln b tr fr md op : Nat} (h1 : sI S 5216 = nI p) (h2 : sI S 5217 = nI ln) (h3 : sI S 5215 = nI fr) : wI 5216 (nI a) (wI 5215 (nI op) (wI 5213 (nI (cl + 1)) (wA 59 cl (nI md) (wA 58 cl (sI S 5215) (wA 57 cl (nI tr) (wA 56 cl (nI b) (wA 55 cl (sI S 5217) (wA 54 cl (sI S 5216) S)))))))) = entW cl p ln b tr fr md op a S := by
  rw [h1, h2, h3]
  rfl
/-- what is told of a call that has begun -/
def entO (F : Nat → Nat → Nat → Prop) (loc par : Nat → Nat → Nat) (ty : Nat → Nat × Nat) (G : Nat → Nat → Nat → Nat × Nat × LL → Prop) (tq : Nat → Nat × Nat) (x : Lv) (r : List Lv) (i s : Nat) (l' : List (Nat × Nat)) (m j st gv se md nl a q : Nat) (S S' : cS) (k : Nat) : Prop :=
  (∃ ty', CI F loc par ty' G tq ((m, vB x + i + 1, k, md, vT x + vU x, (st, q), (0, 0, ([], j + 1))) :: vAt x (vP x) (vQ x) (i + 1, vU x, (l', s)) :: r) S') ∧ (1 ≤ k ∧ k ≤ 1500 ∧ ¬ lv S k) ∧ (∀ o, lv S' o ↔ lv S o ∨ o = k) ∧ (∀ o, lv S o → obE S S' o) ∧ (sA S' 3 k = nI 7 ∧ sA S' 7 k = nI a ∧ sA S' 8 k = nI 0) ∧ (h_n S' k = nl ∧ ∀ e, e < nl → h_hi S' k e = frH S se (f1O se) gv (vB x + i + 1) e ∧ h_lo S' k e = frL S se (f1O se) gv (vB x + i + 1) e) ∧ (∀ b, b < 108 → sL S' b = sL S b) ∧ (∀ w, w ∈ [5217, 5218, 5219, 4906] → sI S' w = sI S w) ∧ sA S' 50 = sA S 50 ∧ (∀ w, sA S' 55 w = if w = r.length then sI S 5217 else sA S 55 w) ∧ sI S' 5216 = nI st ∧ CFw S S'
theorem enter_C (h : CIg 0 (fun q => gC (x :: r) q + dl md q) F loc par ty G tq (x :: r) S) (hx : vL x = ((i, 1) :: l', s)) (hi : vH x = i + 1 + gv) (hfn : lv S fn) (h9 : sA S 9 fn = nI f) (hf : f < 900) (h28 : sA S 28 f = nI np) (h29 : sA S 29 f = nI nl) (h27 : sA S 27 f = nI st) (hnp : np < 2 ^ 20) (hnl : nl < 2 ^ 20) (hst : st < 2 ^ 20) (h7 : sA S 7 fn = nI a) (hft : ftO ty S m (par m (j + 1)) a) (hloc : loc m (j + 1) = nl) (hpl : np ≤ nl) (hse : se = 0 ∨ lv S se) (hmd : md = 0 ∨ (lv S md ∧ sA S 3 md = nI 5)) (hG : G (vM x) (vP x) (vQ x) (i + 1, vU x, (l', s))) (hkc : c_kind (sL S 47 (vB x + i)) ≠ nI 5) (hka : ∀ n, n < gv → c_kind (sL S 47 (vB x + i + 1 + n)) ≠ nI 5) (h5 : sI S 5216 = nI (vP x)) (hp : vP x < 2 ^ 20) (hln : ∃ ln, ln < 2 ^ 20 ∧ sI S 5217 = nI ln) : (∃ e, ((e = 2 ∧ gv + f1O se ≠ np) ∨ (e = 7 ∧ gv + f1O se = np ∧ r.length = 30) ∨ (e = 8 ∧ gv + f1O se = np ∧ r.length < 30 ∧ (300 < nl ∨ (nl ≤ 300 ∧ nLive S = 1500)))) ∧ Ans (d + 14) 254 [.ref 52, .int (nI fn), .int (nI gv), .int (nI se), .int (nI md)] S (some (.int (nI e))) S) ∨ (gv + f1O se = np ∧ r.length < 30 ∧ nl ≤ 300 ∧ nLive S < 1500 ∧ ∃ k S', Ans (d + 14) 254 [.ref 52, .int (nI fn), .int (nI gv), .int (nI se), .int (nI md)] S (some (.int (nI 0))) S' ∧ ∀ q, entO F loc par ty G tq x r i s l' m j st gv se md nl a q S S' k) := by
  have m254 := ml_254
  have hfn1 := hfn.1
  have hfn2 := hfn.2.1
  obtain ⟨hr1, hr2, hr3, hr30⟩ := h.2.2.2.2.2.2.1
  obtain ⟨ln, hln1, hln2⟩ := hln
  obtain ⟨b1, b2, b3, b4, b5⟩ := h.2.2.1.2.1
  have b4' : vH x ≤ 600 := b4
  have b5' : vU x ≤ 10 := b5
  have hcb := cCal_b h.2.2.2.2.1 h.2.2.1
  have et : topC (x :: r) = vB x + vH x := rfl
  have hse2 : se < 2 ^ 20 := by
    rcases hse with c | c
    · omega
    · have := c.2.1; omega
  have hmd2 : md < 2 ^ 20 := by
    rcases hmd with c | c
    · omega
    · have := c.1.2.1; omega
  have go : ∀ {e : Int32} {W : cS}, Bod (d + 13) 254 0 [(0, .ref 52), (1, .int (nI fn)), (2, .int (nI gv)), (3, .int (nI se)), (4, .int (nI md))] [] S (some (.int e)) W → Ans (d + 14) 254 [.ref 52, .int (nI fn), .int (nI gv), .int (nI se), .int (nI md)] S (some (.int e)) W := fun hb => Ans.of (by rw [m254]; exact Nat.le_of_ble_eq_true rfl) (Bod.lv (by rfl) hb)
  have c1 := infoAt_T (d := d + 11) (S := S) hfn1 hfn2
  rw [h9] at c1
  have c2 := parametersOf_T (d := d + 11) (S := S) hf
  rw [h28] at c2
  have c3 := localsOf_T (d := d + 11) (S := S) hf
  rw [h29] at c3
  have sp : (se = 0 ∧ f1O se = 0) ∨ (se ≠ 0 ∧ f1O se = 1) := by
    by_cases c : se = 0
    · exact Or.inl ⟨c, if_pos c⟩
    · exact Or.inr ⟨c, if_neg c⟩
  by_cases d1 : gv + f1O se = np
  · by_cases d2 : r.length < 30
    · by_cases d3 : nl ≤ 300
      · have hnlt : nl < 2 ^ 31 := by omega
        rcases nb_create (d := d + 11) (kd := 7) h.1 h.2.1 (by omega) (by omega) with ⟨hf, A⟩ | ⟨hlt, k, X1, A1, n1, x3, x7, x8, x9, x10⟩
        · refine Or.inl ⟨8, Or.inr (Or.inr ⟨rfl, d1, d2, Or.inr ⟨d3, hf⟩⟩), go ?_⟩
          rcases sp with ⟨s1, s2⟩ | ⟨s1, s2⟩
          · exact mEnS_9 (d := d + 5) (by omega) (by omega) hse2 hmd2 (by omega) c1 s1 (by omega) c2 (by omega) hr1 (by omega) d2 (by omega) c3 d3 (by omega) A rfl
          · exact mEnS_3 (d := d + 5) (by omega) (by omega) hse2 hmd2 (by omega) c1 s1 (by omega) c2 (by omega) hr1 (by omega) d2 (by omega) c3 d3 (by omega) A rfl
        · refine Or.inr ⟨d1, d2, d3, hlt, k, ?_⟩
          have hk1 := n1.2.2.2.2.2.2.2.1
          have hk2 := n1.2.2.2.2.2.2.2.2
          have hg1000 : ∀ q, gC (x :: r) q + dl md q < 1000 := fun q => by
            have := gC_le (C := x :: r) q
            have : dl md q ≤ 1 := by unfold dl; split <;> omega
            rw [List.length_cons] at *
            omega
          obtain ⟨X2, A2, m2, n2, e2, i2⟩ := nb_hold (d := d + 12) n1 hg1000
          have hya : a = 0 ∨ lv S a := by
            by_cases c : par m (j + 1) = 0
            · exact Or.inl (hft.1 c)
            · exact Or.inr (hft.2 c).1
          have ha2 : a ≤ 1500 := by
            rcases hya with c | c
            · omega
            · exact c.2.1
          have ek2 := e2 k hk1 hk2
          obtain ⟨X3, A3, n3, l3, l7, l8, l9, l10⟩ := nb_link (d := d + 11) (i := nI 0) (y := a) (u := 0) n2 (by rw [ek2.2.1]; exact x7) (by rw [ek2.2.2.1]; exact x8) hya (Or.inl rfl)
          have hk73 : sA X3 3 k = nI 7 := by rw [l3, ek2.1]; exact x3
          obtain ⟨X4, A4, n4, i4, a4, z4, v4⟩ := nb_open (d := d + 9) n3 hk73 (by rw [l10, ek2.2.2.2.2.1]; exact x10) d3
          have c6 : Ans (d + 13) 168 [.ref 2, .int (nI fn)] X2 (some (.int (nI a))) X2 := by
            have := firstAt_T (d := d + 11) (S := X2) hfn1 hfn2
            rw [((n2.2.2.2.2.2.1 fn hfn).2.1), h7] at this
            exact this
          -- the instance, if there is one
          have hz4 : ∀ e, e < nl → sL X4 (h_row X4 k) (2 * e) = 0 ∧ sL X4 (h_row X4 k) (2 * e + 1) = 0 := fun e he => ⟨v4 _ (by omega), v4 _ (by omega)⟩
          have s34 : sA X4 3 k = nI 7 := by rw [a4 3 (by omega) (by omega)]; exact hk73
          have s74 : sA X4 7 k = nI a := by rw [a4 7 (by omega) (by omega)]; exact l7
          have s84 : sA X4 8 k = nI 0 := by rw [a4 8 (by omega) (by omega)]; exact l8
          -- what is left when the values are in
          have last : ∀ {Xf : cS}, nbX k (fun q => gC (x :: r) q + dl md q + dl k q) (topC (x :: r)) S Xf → frN S Xf se (f1O se) gv (vB x + i + 1) k nl → sA Xf 7 k = nI a → sA Xf 8 k = nI 0 → ∃ S', (∀ q, entO F loc par ty G tq x r i s l' m j st gv se md nl a q S S' k) ∧ ∀ lv1, sm_get lv1 0 = some (.ref 52) → sm_get lv1 2 = some (.int (nI gv)) → sm_get lv1 4 = some (.int (nI md)) → sm_get lv1 5 = some (.int (nI f)) → sm_get lv1 6 = some (.int (nI (f1O se))) → sm_get lv1 8 = some (.int (nI k)) → sm_get lv1 9 = some (.int (nI gv)) → Bod (d + 13) 254 168 lv1 [] Xf (some (.int (nI 0))) S' := fun {Xf} nf hfN sf7 sf8 => by
            obtain ⟨ek7, en, ev⟩ := frN_v hfN (by omega)
            have hlf := nbX_lk nf
            have mf : mHS 0 (fun q => gC (x :: r) q + dl md q + dl k q) (topC (x :: r)) Xf := mHS_up nf.1 (by
              show 0 < gC (x :: r) k + dl md k + dl k k
              rw [dl_s (by omega : k ≠ 0)]
              omega)
            have eLf : ∀ b, b < 108 → sL Xf b = sL S b := nf.2.2.2.2.2.2.1
            have cf := nf.2.2.1
            have eIf : ∀ w, w ∉ cfI0 → sI Xf w = sI S w := cf.2.2.1
            have eAf : ∀ w, w ∉ cfA0 → sA Xf w = sA S w := cf.2.2.2.1
            obtain ⟨S5, B1, B2, B3, B4, _⟩ := mhand_T (d := d + 4) (v := gv) mf (by omega) (fun w hw1 hw2 => by
              rw [eLf 47 (by omega), eLf 48 (by omega)]
              by_cases c : ob (sL S 47 w) (sL S 48 w) = 0
              · exact Or.inl c
              · right
                have hin : h_ent Xf k (f1O se + (w - (vB x + i + 1))) ∈ tgs Xf k := List.mem_cons_of_mem _ (List.mem_cons_of_mem _ (seqN_in (Nat.zero_le _) (by rw [en]; omega)))
                have ee : h_ent Xf k (f1O se + (w - (vB x + i + 1))) = ob (sL S 47 w) (sL S 48 w) := by
                  obtain ⟨p1, p2⟩ := ev (f1O se + (w - (vB x + i + 1))) (by omega)
                  obtain ⟨p3, p4⟩ := frH_at (S := S) (se := se) (n := f1O se) (gv := gv) (t0 := vB x + i + 1) (n0 := w - (vB x + i + 1)) (by omega)
                  unfold h_ent
                  rw [p1, p2, p3, p4, show vB x + i + 1 + (w - (vB x + i + 1)) = w by omega]
                rw [ee] at hin
                exact held_pos hk2 hlf.2.2 hin)
            rw [show topC (x :: r) - gv = vB x + i + 1 by omega] at B2
            have eI5 : ∀ w, w ∉ cfI0 → w ∉ kxI → sI S5 w = sI S w := fun w h1 h2 => (B3.1.I h2).trans (eIf w h1)
            have eA5 : ∀ w, w ∉ cfA0 → w ∉ kxA → sA S5 w = sA S w := fun w h1 h2 => (B3.1.A h2).trans (eAf w h1)
            have t5 : sI S5 4603 = nI (vB x + i + 1) := B2.2.2.1
            have cl5 : sI S5 5213 = nI r.length := (eI5 5213 (by decide) (by decide)).trans hr1
            have tr5 : sI S5 5214 = nI (vT x + vU x) := (eI5 5214 (by decide) (by decide)).trans hr2
            have fr5 : sI S5 5215 = nI (vF x) := (eI5 5215 (by decide) (by decide)).trans hr3
            have p5 : sI S5 5216 = nI (vP x) := (eI5 5216 (by decide) (by decide)).trans h5
            have q5 : sI S5 5217 = nI ln := (eI5 5217 (by decide) (by decide)).trans hln2
            have st5 : sA S5 27 f = nI st := by rw [eA5 27 (by decide) (by decide)]; exact h27
            refine ⟨entW r.length (vP x) ln (vB x + i) (vT x + vU x) (vF x) md k st S5, fun q => ?_, fun lv1 q0 q2 q4 q5' q6 q8 q9 => ?_⟩
            · have hF : FrL [5213, 5215, 5216] [54, 55, 56, 57, 58, 59] [] S5 (entW r.length (vP x) ln (vB x + i) (vT x + vU x) (vF x) md k st S5) := entW_F
              obtain ⟨_, w55, _⟩ := entW_A (cl := r.length) (p := vP x) (ln := ln) (b := vB x + i) (tr := vT x + vU x) (fr := vF x) (md := md) (op := k) (a := st) (S := S5)
              have w57 : sI (entW r.length (vP x) ln (vB x + i) (vT x + vU x) (vF x) md k st S5) 5216 = nI st := rIe _ _ _
              have ww := (cf.wide.w.trans (CFm_KX B3).wide.w).trans (entW_w (cl := r.length) (p := vP x) (ln := ln) (b := vB x + i) (tr := vT x + vU x) (fr := vF x) (md := md) (op := k) (a := st) (S := S5))
              obtain ⟨ty', tk, to⟩ : ∃ ty' : Nat → Nat × Nat, ty' k = (m, j + 1) ∧ ∀ w, w ≠ k → ty' w = ty w := ⟨fun w => if w = k then (m, j + 1) else ty w, if_pos rfl, fun w hw => if_neg hw⟩
              have hgg : ∀ w, gC (x :: r) w ≤ gC (x :: r) w + dl md w + dl k w := fun w => by omega
              have hoK : ∀ o, lv S o → lv Xf o ∧ sA Xf 3 o = sA S 3 o := fun o ho => ⟨(nf.2.2.2.2.1 o).mpr (Or.inl ho), (nf.2.2.2.2.2.1 o ho).1⟩
              have hftX : ftO ty' Xf m (par m (j + 1)) a := by
                refine ⟨hft.1, fun h0 => ?_⟩
                obtain ⟨p1, p2, p3⟩ := hft.2 h0
                obtain ⟨p4, p5'⟩ := hoK a p1
                exact ⟨p4, by rw [p5']; exact p2, by rw [to a (fun c => nf.2.2.2.1 (c ▸ p1))]; exact p3⟩
              have s3f : sA Xf 3 k = nI 7 := hfN.1
              have hown : tyO F loc par ty' Xf k ∧ vlO Xf k := by
                refine ⟨⟨fun c => ?_, fun c => ?_, fun c => ?_, fun c => ?_, fun c => ?_, fun _ => ⟨sf8, a, sf7, by rw [tk]; show j + 1 ≠ 0; omega, ?_, by rw [tk]; exact hftX⟩⟩, ⟨fun e he => ⟨?_, fun c => absurd s3f c⟩, fun c => ?_⟩⟩
                · rw [s3f] at c
                  rcases c with c | c <;> exact absurd c (by decide)
                · rw [s3f] at c
                  exact absurd c (by decide)
                · rw [s3f] at c
                  exact absurd c (by decide)
                · rw [s3f] at c
                  exact absurd c (by decide)
                · rw [s3f] at c
                  exact absurd c (by decide)
                · rw [tk]
                  show h_z Xf k = loc m (j + 1)
                  unfold h_z
                  rw [hfN.2.1, gN_nI hnlt, hloc]
                · rw [en] at he
                  rw [(ev e he).1]
                  unfold frH
                  split
                  · split <;> decide
                  · split
                    · exact hka _ (by omega)
                    · decide
                · rw [s3f] at c
                  exact absurd c (by decide)
              have hC := CIg_of h nf hgg to hown
              have hmdX : md = 0 ∨ (lv Xf md ∧ sA Xf 3 md = nI 5) := hmd.imp id (fun c => ⟨(hoK md c.1).1, by rw [(hoK md c.1).2]; exact c.2⟩)
              have hCI := enter_CI (q := q) (st := st) (ln := ln) hC B2 B3 B4 hx hi hlf s3f tk hmdX hG (by rw [eLf 47 (by omega)]; exact hkc) d2 hp
              have e3W : ∀ o, sA (entW r.length (vP x) ln (vB x + i) (vT x + vU x) (vF x) md k st S5) 3 o = sA Xf 3 o := fun o => by
                rw [hF.A (by decide)]
                exact (B3.2.1 o).trans (if_neg List.not_mem_nil)
              have eLW : ∀ b, sL (entW r.length (vP x) ln (vB x + i) (vT x + vU x) (vF x) md k st S5) b = sL Xf b := fun b => by rw [hF.2.1 b List.not_mem_nil, B4]
              have eQW : sQ (entW r.length (vP x) ln (vB x + i) (vT x + vU x) (vF x) md k st S5) = sQ Xf := hF.2.2.2.1.trans B3.1.2.2.2.1
              have e10 : ∀ o, sA (entW r.length (vP x) ln (vB x + i) (vT x + vU x) (vF x) md k st S5) 10 o = sA Xf 10 o := fun o => by
                rw [hF.A (by decide)]
                exact (B3.2.2.1 o).trans (if_neg List.not_mem_nil)
              have eo : ∀ c, c ∈ [7, 8, 9] → sA (entW r.length (vP x) ln (vB x + i) (vT x + vU x) (vF x) md k st S5) c = sA Xf c := fun c hc => by
                rw [hF.A (by revert hc; revert c; decide)]
                exact B3.1.A (by revert hc; revert c; decide)
              have ekW : h_kd (entW r.length (vP x) ln (vB x + i) (vT x + vU x) (vF x) md k st S5) k = h_kd Xf k := by unfold h_kd; rw [e3W]
              have erW : h_row (entW r.length (vP x) ln (vB x + i) (vT x + vU x) (vF x) md k st S5) k = h_row Xf k := by unfold h_row; rw [eQW]
              refine ⟨⟨ty', hCI⟩, ⟨hk1, hk2, nf.2.2.2.1⟩, fun o => ?_, fun o ho => ?_, ⟨by rw [e3W]; exact s3f, by rw [eo 7 (by decide)]; exact sf7, by rw [eo 8 (by decide)]; exact sf8⟩, ⟨?_, fun e he => ?_⟩, fun b hb => by rw [eLW]; exact eLf b hb, fun w hw => ?_, ?_, fun w => ?_, w57, ww⟩
              · have : lv (entW r.length (vP x) ln (vB x + i) (vT x + vU x) (vF x) md k st S5) o ↔ lv Xf o := by unfold lv; rw [e3W]
                exact this.trans (nf.2.2.2.2.1 o)
              · have h1 := nf.2.2.2.2.2.1 o ho
                have h2 := obE_KX B3 (mHS_ok nf.1 o ho.1 ho.2.1) List.not_mem_nil
                obtain ⟨r1, r2⟩ := FrL_row hF (fun a ha => by cases ha) (mHS_ok B2 o ho.1 ho.2.1)
                exact (h1.trans h2).trans (obE_of (by rw [hF.A (by decide)]) (by rw [hF.A (by decide)]) (by rw [hF.A (by decide)]) (by rw [hF.A (by decide)]) (by rw [hF.A (by decide)]) r1 r2)
              · unfold h_n h_z
                rw [ekW, e10]
                exact en
              · unfold h_hi h_lo
                rw [ekW, erW, eLW]
                exact ev e he
              · simp only [List.mem_cons, List.not_mem_nil, or_false] at hw
                rw [hF.I (by rcases hw with c | c | c | c <;> (subst c; decide))]
                exact eI5 w (by rcases hw with c | c | c | c <;> (subst c; decide)) (by rcases hw with c | c | c | c <;> (subst c; decide))
              · rw [hF.A (by decide)]
                exact eA5 50 (by decide) (by decide)
              · rw [w55, eA5 55 (by decide) (by decide), hln2]
            · have hb := mEnL_1 (d := d + 5) (cl := r.length) (t := vB x + i + 1) (tr := vT x + vU x) (a := st) q0 q2 q4 q5' q6 q8 q9 (by omega) hmd2 (by omega) (by omega) (by omega) (by omega) (Nat.le_refl _) (B1.up (by omega)) cl5 (by omega) d2 t5 (by omega) (by omega) tr5 (by omega) hst (startOf_e (d := d + 11) st5 hf)
              have hb' : Bod (d + 13) 254 168 lv1 [] Xf (some (.int (nI 0))) (wI 5216 (nI st) (wI 5215 (nI k) (wI 5213 (nI (r.length + 1)) (wA 59 r.length (nI md) (wA 58 r.length (sI S5 5215) (wA 57 r.length (nI (vT x + vU x)) (wA 56 r.length (nI (vB x + i)) (wA 55 r.length (sI S5 5217) (wA 54 r.length (sI S5 5216) S5))))))))) := hb
              rw [entW_e p5 q5 fr5] at hb'
              exact hb'
          have hstv : ∀ w, w < topC (x :: r) → ∃ o, c_obj (sL S 47 w) (sL S 48 w) = nI o ∧ (o = 0 ∨ lv S o) := fun w hw => by
            obtain ⟨o, o1, o2, o3⟩ := mHS_o h.1 hw
            exact ⟨o, o2, o3⟩
          -- the values go in
          have loop : ∀ {X5 : cS}, nbX k (fun q => gC (x :: r) q + dl md q + dl k q) (topC (x :: r)) S X5 → frN S X5 se (f1O se) 0 (vB x + i + 1) k nl → sA X5 7 k = nI a → sA X5 8 k = nI 0 → ∃ S', (∀ q, entO F loc par ty G tq x r i s l' m j st gv se md nl a q S S' k) ∧ ∀ lv1, sm_get lv1 0 = some (.ref 52) → sm_get lv1 2 = some (.int (nI gv)) → sm_get lv1 4 = some (.int (nI md)) → sm_get lv1 5 = some (.int (nI f)) → sm_get lv1 6 = some (.int (nI (f1O se))) → sm_get lv1 8 = some (.int (nI k)) → sm_get lv1 9 = some (.int (nI 0)) → Bod (d + 13) 254 168 lv1 [] X5 (some (.int (nI 0))) S' := fun {X5} n5 f5 s7 s8 => by
            obtain ⟨W2, c1, c2, c3, c4, c5⟩ := fr_loop (d := d + 5) (md := md) (nb := f) (rem := gv) d3 (fun X hX => hX.1.2.2.1) (by omega) (by omega) (by omega) (by omega) hk2 hmd2 (by omega) hstv (Nat.zero_add gv) n5 f5
            obtain ⟨S', e1, e2⟩ := last c1 c2 (by rw [c4 7 (by omega) (by omega)]; exact s7) (by rw [c4 8 (by omega) (by omega)]; exact s8)
            exact ⟨S', e1, fun lv1 q0 q2 q4 q5 q6 q8 q9 => c5 (fun lv2 p0 p2 p4 p5 p6 p8 p9 => e2 lv2 p0 p2 p4 p5 p6 p8 p9) lv1 q0 q2 q4 q5 q6 q8 q9⟩
          rcases sp with ⟨s1, s2⟩ | ⟨s1, s2⟩
          · have f4 : frN S X4 se (f1O se) 0 (vB x + i + 1) k nl := ⟨s34, z4, fun e he => by
              obtain ⟨p1, p2⟩ := hz4 e he
              rw [p1, p2, s2]
              unfold frH frL
              rw [if_neg (Nat.not_lt_zero e), if_neg (Nat.not_lt_zero e), if_neg (Nat.not_lt_zero e), if_neg (Nat.not_lt_zero e)]
              exact ⟨rfl, rfl⟩⟩
            obtain ⟨S', e1, e2⟩ := loop n4 f4 s74 s84
            rw [s2] at e2
            exact ⟨S', go (mEnS_7 (d := d + 5) (by omega) (by omega) hse2 hmd2 (by omega) c1 s1 (by omega) c2 (by omega) hr1 (by omega) d2 (by omega) c3 d3 (by omega) A1 (by omega) (A2.up (by omega)) (by omega) c6 (A3.up (by omega)) (A4.up (by omega)) s1 e2), e1⟩
          · have hsl : lv S se := hse.resolve_left s1
            have hsO := ob_obj hsl.2.1
            obtain ⟨X5, A5, n5, i5, a5, z5, r5, o5, h5', l5'⟩ := nb_fill (d := d + 10) (e := 0) (hi := 4611686018427387904) (lo := lN se) n4 s34 z4 d3 (by omega) (hz4 0 (by omega)) hsO.1 (Or.inr ((n4.2.2.2.2.1 se).mpr (Or.inl hsl)))
            have f5 : frN S X5 se (f1O se) 0 (vB x + i + 1) k nl := ⟨by rw [a5 3 (by omega) (by omega)]; exact s34, z5, fun e he => by
              rw [r5, s2]
              by_cases c : e = 0
              · subst c
                rw [h5', l5']
                unfold frH frL
                rw [if_pos (by omega), if_neg s1, if_pos (by omega), if_neg s1]
                exact ⟨rfl, rfl⟩
              · obtain ⟨p1, p2⟩ := hz4 e he
                rw [o5 _ (by omega) (by omega), o5 _ (by omega) (by omega), p1, p2]
                have q1 : ¬ e < 1 := by omega
                have q2 : ¬ e < 1 + 0 := by omega
                unfold frH frL
                rw [if_neg q1, if_neg q2, if_neg q1, if_neg q2]
                exact ⟨rfl, rfl⟩⟩
            obtain ⟨S', e1, e2⟩ := loop n5 f5 (by rw [a5 7 (by omega) (by omega)]; exact s74) (by rw [a5 8 (by omega) (by omega)]; exact s84)
            rw [s2] at e2
            rw [← nI_ll (n := se) (by omega)] at A5
            exact ⟨S', go (mEnS_2 (d := d + 5) (by omega) (by omega) hse2 hmd2 (by omega) c1 s1 (by omega) c2 (by omega) hr1 (by omega) d2 (by omega) c3 d3 (by omega) A1 (by omega) (A2.up (by omega)) (by omega) c6 (A3.up (by omega)) (A4.up (by omega)) s1 A5 e2), e1⟩
      · refine Or.inl ⟨8, Or.inr (Or.inr ⟨rfl, d1, d2, Or.inl (by omega)⟩), go ?_⟩
        rcases sp with ⟨s1, s2⟩ | ⟨s1, s2⟩
        · exact mEnS_10 (d := d + 5) (by omega) (by omega) hse2 hmd2 (by omega) c1 s1 (by omega) c2 (by omega) hr1 (by omega) d2 (by omega) c3 (by omega)
        · exact mEnS_4 (d := d + 5) (by omega) (by omega) hse2 hmd2 (by omega) c1 s1 (by omega) c2 (by omega) hr1 (by omega) d2 (by omega) c3 (by omega)
    · refine Or.inl ⟨7, Or.inr (Or.inl ⟨rfl, d1, by omega⟩), go ?_⟩
      rcases sp with ⟨s1, s2⟩ | ⟨s1, s2⟩
      · exact mEnS_11 (d := d + 5) (by omega) (by omega) hse2 hmd2 (by omega) c1 s1 (by omega) c2 (by omega) hr1 (by omega) (by omega)
      · exact mEnS_5 (d := d + 5) (by omega) (by omega) hse2 hmd2 (by omega) c1 s1 (by omega) c2 (by omega) hr1 (by omega) (by omega)
  · refine Or.inl ⟨2, Or.inl ⟨rfl, d1⟩, go ?_⟩
    rcases sp with ⟨s1, s2⟩ | ⟨s1, s2⟩
    · exact mEnS_12 (d := d + 5) (by omega) (by omega) hse2 hmd2 (by omega) c1 s1 (by omega) c2 (by omega)
    · exact mEnS_6 (d := d + 5) (by omega) (by omega) hse2 hmd2 (by omega) c1 s1 (by omega) c2 (by omega)
end
