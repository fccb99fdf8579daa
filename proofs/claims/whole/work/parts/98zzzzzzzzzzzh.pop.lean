/-! DEEDS ON BOTH SIDES: the last item is taken off (the builtin) -/
section
variable {P : Nat → Prop} {T : cS} {gT : Nat} {Q : Nat → Prop} {β β' : Nat → Nat} {F : Nat → Nat → Nat → Prop} {loc par : Nat → Nat → Nat} {ty : Nat → Nat × Nat} {G : Nat → Nat → Nat → Nat × Nat × LL → Prop} {D D' K : List Nat} {z nn g0 g1 g3 g4 g5 gn d d' dr v o i k k0 e n nt m t tp tt r0 : Nat} {tq : Nat → Nat × Nat} {C r : List Lv} {x : Lv} {S S' S1 X W Sc Sr : cS} {f g : Nat → Nat} {hi lo kh kl a b : Int64} {kd rb : Int32} {l' : List (Nat × Nat)} {s : Nat}
theorem del_W (h : CI F loc par ty G tq (x :: r) S) (hk : lv S k) (hw : c_width (h_kd S k) = 2 ∨ c_width (h_kd S k) = 4) (hk7 : h_kd S k ≠ 7) (he : e < h_n S k) : ∃ X W D, Ans (d + 6) 213 [.ref 2, .int (nI k), .int (nI e)] S none W ∧ mtX k D S X W ∧ CI F loc par ty G tq (x :: r) W ∧ (∀ i, sL W 47 i = sL S 47 i ∧ sL W 48 i = sL S 48 i) ∧ h_n X k = h_n S k - 1 ∧ h_kd X k = h_kd S k ∧ (∀ i, i < h_n S k - 1 → h_hi X k i = h_hi S k (if i < e then i else i + 1) ∧ h_lo X k i = h_lo S k (if i < e then i else i + 1)) ∧ (c_width (h_kd S k) = 4 → ∀ i, i < h_n S k - 1 → h_kh X k i = h_kh S k (if i < e then i else i + 1) ∧ h_kl X k i = h_kl S k (if i < e then i else i + 1)) := by

  obtain ⟨l1, l2, l3, l4, l5⟩ := CI_len h
  have hok := mHS_ok h.1 k hk.1 hk.2.1
  obtain ⟨kd, z, k7, z3, k3, k10, ekd, ez, hw0⟩ := kdz hok
  rw [ekd] at hw hk7 ⊢
  have hn : h_n S k = z := by
    unfold h_n
    rw [ez, ekd, if_neg (by omega)]
  rw [hn] at he ⊢
  obtain ⟨X, W, D, A1, hc, x10, xo⟩ := mdel_T (d := d) (e := e) h.1 h.2.1 hk k3 k7 rfl k10 z3 he
  have m2 := KX_refl W
  have hM := mtX_of hc m2 (mHS_cl hc.1)
  obtain ⟨c1, c2, c3, c4, c5, c6, c7, c8, c9, c10, c11, c12, c13, c14, c15, c16⟩ := hc
  have eX : h_kd X k = kd := by unfold h_kd; rw [c12, k3, gN_nI (by omega)]
  have hnX : h_n X k = z - 1 := by
    unfold h_n h_z
    rw [eX, x10, if_neg (by omega), gN_nI (by omega)]
  have ev : ∀ i, i < z - 1 → h_hi X k i = h_hi S k (if i < e then i else i + 1) ∧ h_lo X k i = h_lo S k (if i < e then i else i + 1) := fun i hi' => by
    unfold h_hi h_lo
    rw [eX, ekd, c16]
    unfold h_at
    rcases hw with cw | cw
    · rw [cw] at xo ⊢
      rw [xo _ (by omega), xo _ (by omega)]
      by_cases c : i < e
      · rw [if_pos c, if_pos (by omega), if_pos (by omega)]
        exact ⟨rfl, rfl⟩
      · rw [if_neg c, if_neg (by omega), if_neg (by omega)]
        exact ⟨congrArg _ (by omega), congrArg _ (by omega)⟩
    · rw [cw] at xo ⊢
      rw [xo _ (by omega), xo _ (by omega)]
      by_cases c : i < e
      · rw [if_pos c, if_pos (by omega), if_pos (by omega)]
        exact ⟨rfl, rfl⟩
      · rw [if_neg c, if_neg (by omega), if_neg (by omega)]
        exact ⟨congrArg _ (by omega), congrArg _ (by omega)⟩
  have ekk : c_width kd = 4 → ∀ i, i < z - 1 → h_kh X k i = h_kh S k (if i < e then i else i + 1) ∧ h_kl X k i = h_kl S k (if i < e then i else i + 1) := fun hw4 i hi' => by
    unfold h_kh h_kl
    rw [c16]
    rw [hw4] at xo
    rw [xo _ (by omega), xo _ (by omega)]
    by_cases c : i < e
    · rw [if_pos c, if_pos (by omega), if_pos (by omega)]
      exact ⟨rfl, rfl⟩
    · rw [if_neg c, if_neg (by omega), if_neg (by omega)]
      exact ⟨congrArg _ (by omega), congrArg _ (by omega)⟩
  have hst : ∀ i, sL W 47 i = sL S 47 i ∧ sL W 48 i = sL S 48 i := fun i => by
    rw [c5, c11 47 (by omega), c11 48 (by omega)]
    exact ⟨rfl, rfl⟩
  have h0l := CI_lob h
  have hsh : ∀ i, i < z - 1 → (if i < e then i else i + 1) < z := fun i hi' => by split <;> omega
  refine ⟨X, W, D ++ [], A1, hM, ?_, hst, hnX, eX, ev, ekk⟩
  have := CI_mut (v := 0) h hM (by rw [Nat.sub_zero]; exact c1) c2 (fun c => ?_) (fun _ => ⟨fun i hi' => ?_, fun c2' i hi' => ?_⟩) (fun i _ => hst i) (by omega) (vP x) (vQ x)
  · rw [Nat.sub_zero] at this
    exact this
  · rw [k3] at c
    exact absurd (nI_j (by omega) (by omega) c) hk7
  · obtain ⟨y1, y2⟩ := (h.2.2.2.1 k hk).2
    rw [hnX] at hi'
    rw [hn] at y1
    rw [(ev i hi').1, c12]
    exact y1 _ (hsh i hi')
  · obtain ⟨y1, y2⟩ := (h.2.2.2.1 k hk).2
    rw [hnX] at hi'
    rw [hn] at y2
    rw [c12] at c2'
    have e2 : kd = 2 := nI_j (by omega) (by omega) (k3.symm.trans c2')
    rw [(ekk (by rw [e2]; rfl) i hi').1]
    exact y2 c2' _ (hsh i hi')
theorem sFr.symm (h : sFr tp S W) : sFr tp W S := by
  obtain ⟨a1, a2, a3, a4, a5, a6, a7, a8, a9⟩ := h
  exact ⟨a1.symm, a2.symm, a3.symm, a4.symm, a5.symm, fun i hi => (a6 i hi).symm, fun a h1 h2 h3 => (a7 a h1 h2 h3).symm, fun a h1 h2 => (a8 a h1 h2).symm, fun i hi => ⟨(a9 i hi).1.symm, (a9 i hi).2.1.symm, (a9 i hi).2.2.symm⟩⟩
theorem sFr_le {tp' : Nat} (h : sFr tp S W) (hle : tp' ≤ tp) : sFr tp' S W := by
  obtain ⟨a1, a2, a3, a4, a5, a6, a7, a8, a9⟩ := h
  exact ⟨a1, a2, a3, a4, a5, a6, a7, a8, fun i hi => a9 i (by omega)⟩
theorem sFr_w2 {j : Nat} {q : Int32} (h : sFr tp S W) : sFr tp (wI j q S) (wI j q W) := by
  obtain ⟨a1, a2, a3, a4, a5, a6, a7, a8, a9⟩ := h
  refine ⟨a1, a2, a3, a4, a5, fun i hi => ?_, a7, a8, a9⟩
  rw [rI, rI]
  split
  · rfl
  · exact a6 i hi
theorem remQ_last {v2 v3 v4 v5 v6 v7 : Nat} : remQ S S v2 v3 v4 v5 v6 v7 m z z :=
  ⟨fun q => by rw [if_neg (by omega)], fun q => by rw [if_neg (by omega)], fun q => by rw [if_neg (by omega)], fun q => by rw [if_neg (by omega)], fun q => by rw [if_neg (by omega)], fun q => by rw [if_neg (by omega)], fun _ _ _ => rfl, fun _ _ _ _ _ => rfl, rfl, rfl, rfl, rfl, rfl, rfl⟩
theorem pop_R (h : CI F loc par ty G tq (x :: r) S) (hH : vH x ≤ 599) (hx : vL x = ((i, 1) :: l', s)) (hi' : vH x - 2 = i) (hl : lob (l', s) + 2 ≤ vH x) : opR F loc par ty G tq (d + 15) 246 [.ref 49] 380 [.ref 61, .int (nI 4), .int (nI (topC (x :: r) + offC (x :: r) - 2)), .int (nI 1)] x r (vH x - 2 + 1, vU x, (l', s)) S := by
  have m246 := ml_246
  have m380 := ml_380
  obtain ⟨l1, l2, l3, l4, l5⟩ := CI_len h
  have hT := CI_T h
  have hlx : lob (vL x) = i + 1 := by rw [hx]; rfl
  have eb : topC (x :: r) + offC (x :: r) - 1 - 0 = topC (x :: r) + offC (x :: r) - 2 + 1 := by omega
  obtain ⟨o, o1, o2, o3⟩ := mHS_o h.1 (i := topC (x :: r) - 1 - 0) (by omega)
  have qo := obk_C (d := d + 2) (nv := 0) (kd := 1) h (by omega) (by omega) (by omega) o1 o2 o3
  have bb : topC (x :: r) + offC (x :: r) - 2 < 2 ^ 20 := by omega
  have goC : ∀ {e : Int32} {S'}, Bod (d + 14) 246 0 [(0, .ref 49)] [] S (some (.int e)) S' → Ans (d + 15) 246 [.ref 49] S (some (.int e)) S' := fun hb => Ans.of (by rw [m246]; exact Nat.le_of_ble_eq_true rfl) (Bod.lv (by rfl) hb)
  have goR : ∀ {Sr : cS} {e : Int32} {W : cS}, Bod (d + 14) 380 0 [(0, .ref 61), (1, .int (nI 4)), (2, .int (nI (topC (x :: r) + offC (x :: r) - 2))), (3, .int (nI 1))] [] Sr (some (.int e)) W → Ans (d + 15) 380 [.ref 61, .int (nI 4), .int (nI (topC (x :: r) + offC (x :: r) - 2)), .int (nI 1)] Sr (some (.int e)) W := fun hb => Ans.of (by rw [m380]; exact Nat.le_of_ble_eq_true rfl) (Bod.lv (by rfl) hb)
  have his : ∀ {P T gT Q β D z nn g0 g1 g3 g4 g5 gn Sr}, XR P T gT Q β F D z nn g0 g1 g3 g4 g5 gn tq (x :: r) S Sr → (h_kd S o ≠ 1 → Ans (d + 14) 363 [.ref 61, .int (nI (topC (x :: r) + offC (x :: r) - 2 + 1)), .int (nI 1)] Sr (some (.int (nI 0))) Sr) ∧ (h_kd S o = 1 → lv S o ∧ Ans (d + 14) 363 [.ref 61, .int (nI (topC (x :: r) + offC (x :: r) - 2 + 1)), .int (nI 1)] Sr (some (.int (nI 1))) Sr ∧ ∀ t, sQ Sr 86 (β o) = some t → tOk Sr (β o) t → Ans (d + 14) 361 [.ref 61, .int (nI (topC (x :: r) + offC (x :: r) - 2 + 1))] Sr (some (.ref t)) Sr) := fun {P T gT Q β D z nn g0 g1 g3 g4 g5 gn Sr} hX => by
    have := XR_is (d := d + 5) h hX (ob_ := 0) (by omega) o2 o3 o1
    rw [eb] at this
    exact ⟨fun c => this.1 1 (Or.inl rfl) c, fun c => this.2 1 (Or.inl rfl) c⟩
  by_cases k1 : h_kd S o = 1
  · have hol : lv S o := by
      rcases o3 with e0 | h'
      · subst e0
        unfold h_kd at k1
        rw [CI_z0 h] at k1
        exact absurd k1 (by decide)
      · exact h'
    have ho1 := hol.1
    rw [if_pos k1] at qo
    have oko := mHS_ok h.1 o hol.1 hol.2.1
    have no := h_n_le oko
    have qs := sz_C (d := d + 12) hol oko (Or.inl k1)
    by_cases hz : h_n S o = 0
    · rw [hz] at qs
      refine opR_err (e := 3) h (by omega) (goC (mPpZ_1 (d := d + 6) (by omega) qo (by omega) qs)) (fun P T gT Q β D z nn g0 g1 g3 g4 g5 gn Sr hX => goR ?_)
      obtain ⟨t, v2, v3, v4, v5, v6, v7, n, m, bt, t1, t2, t108, ⟨N, tS⟩, wr, wd, wl, wj, f0, f1, fn, fv, f6, h87⟩ := HR_o hX.1 hol
      obtain ⟨_, j1, j2⟩ := (his hX).2 k1
      rw [hz] at f1
      exact rBt4_2 (d := d + 6) bb (by omega) rfl j1 t108 (j2 t t1 t2) tS f1 (by omega) rfl (rfail_T (d := d + 5) 3 (by omega) Sr)
    · obtain ⟨z, ez⟩ : ∃ z, h_n S o = z + 1 := ⟨h_n S o - 1, by omega⟩
      have hii : z < h_n S o := by omega
      obtain ⟨qh, ql⟩ := ent_C (d := d + 11) hol oko hii
      obtain ⟨ov, v1, v2', v3'⟩ := ent_o oko (mHS_cl h.1) hol hii
      have q3 : sA S 3 o ≠ nI 7 := fun c => by
        unfold h_kd at k1
        rw [c] at k1
        exact absurd k1 (by decide)
      have e0 : c_kind (h_hi S o z) ≠ 0 ∧ c_kind (h_hi S o z) ≠ nI 5 := by
        obtain ⟨y1, _⟩ := (h.2.2.2.1 o hol).2
        exact ⟨(y1 _ hii).2 q3, (y1 _ hii).1⟩
      have hg1000 : ∀ k, gC (x :: r) k < 1000 := fun k => by have := gC_le (C := x :: r) k; rw [List.length_cons] at this; omega
      obtain ⟨S1, p1, p2, p3, p4, p5, p6⟩ := mpush_T (d := d + 12) h.1 (by omega) v2' v1 v3' (Or.inl rfl) hg1000
      have h1 := CI_give (v := 0) h p3 (by omega) (by rw [Nat.sub_zero]; exact p2) (fun j hj => p4 j (by omega)) (by rw [Nat.sub_zero]; exact p5) (by have := CI_lob h; omega) (by omega) e0 (vP x) (vQ x)
      have hvx : vAt x (vP x) (vQ x) (vH x - 0 + 1, vU x, vL x) = vAt x (vP x) (vQ x) (vH x + 1, vU x, vL x) := rfl
      have ht1 : topC (vAt x (vP x) (vQ x) (vH x - 0 + 1, vU x, vL x) :: r) = topC (x :: r) + 1 := by
        show vB x + (vH x - 0 + 1) = vB x + vH x + 1
        omega
      have lv1 : ∀ j, lv S1 j ↔ lv S j := fun j => by
        constructor
        · intro hj; exact ((lv_KX p3 j).mp hj).1
        · intro hj; exact (lv_KX p3 j).mpr ⟨hj, fun c => by cases c⟩
      have hE1 : obE S S1 o := obE_KX p3 oko (fun c => by cases c)
      have kd1 : h_kd S1 o = 1 := by rw [(obE_kd hE1).1]; exact k1
      have n1 : h_n S1 o = z + 1 := by
        rw [← ez]
        unfold h_n
        rw [(obE_kd hE1).1, (obE_kd hE1).2]
      obtain ⟨X, W, D0, A, hM, hW, hst, hnX, hkX, hev, hek⟩ := del_W (d := d + 8) (e := z) h1 ((lv1 o).mpr hol) (Or.inl (by rw [kd1]; rfl)) (by omega) (by omega)
      have l3W := hW.1.2.2.1
      rw [ht1] at l3W
      have r1 := hi_ev (d := d + 12) (b := 0) l3W (by omega) (by omega)
      have r2 := lo_ev (d := d + 12) (b := 0) l3W (by omega) (by omega)
      rw [show topC (x :: r) + 1 - 1 - 0 = topC (x :: r) by omega, (hst _).1, p5] at r1
      rw [show topC (x :: r) + 1 - 1 - 0 = topC (x :: r) by omega, (hst _).2, p6] at r2
      have hovW : ov = 0 ∨ lv W ov := by
        obtain ⟨o', u1, u2, u3⟩ := mHS_o hW.1 (i := topC (x :: r)) (by rw [ht1]; omega)
        rw [(hst _).1, (hst _).2, p5, p6] at u2
        have : o' = ov := nI_j (by omega) (by omega) (u2.symm.trans v2')
        rw [← this]; exact u3
      have hmW := hW.1
      obtain ⟨S', K, b1, b2, b3, b4, b5, b6, b7, b8⟩ := mgive_T (d := d + 5) (v := 3) (o := ov) (hi := h_hi S o z) (lo := h_lo S o z) hmW (by rw [ht1]; omega) (by rw [ht1]; omega) v2' v1 hovW (Or.inl rfl) (fun k => hg1000 k)
      have c1 : Ans (d + 14) 153 [.ref 46, .long (h_hi S o z), .long (h_lo S o z)] S none S1 := p1
      have h213 : Ans (d + 14) 213 [.ref 2, .int (nI o), .int (nI (h_n S o - 1))] S1 none W := by rw [show h_n S o - 1 = z by omega]; exact A
      have hvL1 : vL (vAt x (vP x) (vQ x) (vH x - 0 + 1, vU x, vL x)) = ((i, 1) :: l', s) := hx
      have hvH1 : vH (vAt x (vP x) (vQ x) (vH x - 0 + 1, vU x, vL x)) = vH x + 1 := by
        show vH x - 0 + 1 = vH x + 1
        omega
      have hCI := fun p q => CI_giveM hW b3 (by rw [hvH1]; omega) b2 b4 b5 hvL1 (by rw [hvH1]; omega) (by rw [hvH1]; omega) (by rw [hvH1]; omega) e0 p q
      have elb : ∀ p q, vAt (vAt x (vP x) (vQ x) (vH x - 0 + 1, vU x, vL x)) p q (vH (vAt x (vP x) (vQ x) (vH x - 0 + 1, vU x, vL x)) - 3 + 1, vU (vAt x (vP x) (vQ x) (vH x - 0 + 1, vU x, vL x)), (l', s)) = vAt x p q (vH x - 2 + 1, vU x, (l', s)) := fun p q => by
        rw [hvH1, show vH x + 1 - 3 + 1 = vH x - 2 + 1 by omega]
        rfl
      refine Or.inl ⟨S', goC (mPp_1 (d := d + 6) (by omega) qo (by omega) (by omega) qs (by omega) (by rw [show h_n S o - 1 = z by omega]; exact qh) (by rw [show h_n S o - 1 = z by omega]; exact ql) c1 h213 r1 r2 b1), fun p q => by rw [← elb]; exact hCI p q, ((CFm_KX p3).trans (hM.2.1.trans (CFm_KX b3))).wide, fun P T gT Q β D z' nn g0 g1 g3 g4 g5 gn Sr hX => ?_⟩
      obtain ⟨t, w2, w3, w4, w5, w6, w7, n, m, bt, t1, t2, t108, ⟨N, tS⟩, wr, wd, wl, wj, f0, f1, fn, fv, f6, h87⟩ := HR_o hX.1 hol
      obtain ⟨_, j1, j2⟩ := (his hX).2 k1
      have hvz := fv z hii
      obtain ⟨y, y4, ya, _⟩ := vr_k hvz e0.1
      -- beside it: the reference that would have put the value too
      obtain ⟨s1, s2, s3, s4, s5⟩ := pshW_s (tp := topC (x :: r) + offC (x :: r)) (kd := nI y) (xa := sL Sr w4 z) (xb := sL Sr w5 z) (S := Sr)
      have hX1 := XR_give (v := 0) (hi := h_hi S o z) (lo := h_lo S o z) (tp := topC (x :: r) + offC (x :: r)) hX (mHS_cl h.1) (mHS_ok h.1) h.2.2.2.2.1 p3 (by omega) (fun j hj => p4 j (by omega)) (by rw [Nat.sub_zero]; exact p5) (by rw [Nat.sub_zero]; exact p6) (by rw [Nat.sub_zero]) s1 s2 (by rw [s3, s4, s5, ← ya]; exact hvz)
      rw [List.map_nil, List.append_nil] at hX1
      generalize pshW (topC (x :: r) + offC (x :: r)) (nI y) (sL Sr w4 z) (sL Sr w5 z) Sr = Sr1 at hX1 s1 s2 s3 s4 s5
      obtain ⟨t', x2, x3, x4, x5, x6, x7, n', m', bt', t1', t2', t108', ⟨N', tS'⟩, xr, xd, xl, xj, g0', g1', gn', gv', g6', h87'⟩ := HR_o hX1.1 ((lv1 o).mpr hol)
      have et : t' = t := Option.some.inj (t1'.symm.trans (by rw [s1.2.1]; exact t1))
      subst et
      have hT1 : HR Q β F D X (wI (100 * t' + 1) (nI z) Sr1) g0 g1 nn ∧ tF (β o) t' Sr1 (wI (100 * t' + 1) (nI z) Sr1) := del_HR (e := z) hX1.1 hM ((lv1 o).mpr hol) t1' xr xd xl xj xr remQ_last n1 (Nat.le_refl _) (by omega) hkX (fun j hj => hev j (by omega)) (fun hw4 j hj => hek hw4 j (by omega))
      obtain ⟨hHR, hTF⟩ := hT1
      have hXm := XR_mut (v := 0) hX1 h1.2.2.2.2.1 hM bt' hTF t1' hHR (by omega) (fun j _ => hst j)
      obtain ⟨y1, y2, y3, y4', y5⟩ := pshW_s (tp := topC (x :: r) + offC (x :: r) - 2) (kd := nI y) (xa := sL Sr w4 z) (xb := sL Sr w5 z) (S := wI (100 * t' + 1) (nI z) Sr)
      have hpush : Ans (d + 14) 352 [.ref 61, .int (nI y), .long (sL Sr w4 z), .long (sL Sr w5 z)] (wI 6151 (nI (topC (x :: r) + offC (x :: r) - 2)) (wI (100 * t' + 1) (nI z) Sr)) none (pshW (topC (x :: r) + offC (x :: r) - 2) (nI y) (sL Sr w4 z) (sL Sr w5 z) (wI (100 * t' + 1) (nI z) Sr)) := rpsh_T (d := d + 5) (by omega)
      generalize pshW (topC (x :: r) + offC (x :: r) - 2) (nI y) (sL Sr w4 z) (sL Sr w5 z) (wI (100 * t' + 1) (nI z) Sr) = W9 at y1 y2 y3 y4' y5 hpush
      have hF : sFr (topC (x :: r) + offC (x :: r) - 2) (wI 6151 (nI (topC (vAt x (vP x) (vQ x) (vH x - 0 + 1, vU x, vL x) :: r) - 0 + offC (vAt x (vP x) (vQ x) (vH x - 0 + 1, vU x, vL x) :: r))) (wI (100 * t' + 1) (nI z) Sr1)) W9 := (sFr_I (sFr_w2 (sFr_le s1 (by omega)))).symm.trans y1
      have hX3 := XR_give (v := 3) (tp := topC (x :: r) + offC (x :: r) - 2) hXm (mHS_cl hW.1) (mHS_ok hW.1) hW.2.2.2.2.1 b3 (by show 3 ≤ vH x - 0 + 1 - 0; omega) b4 b5 b6 (by
        have e1 : topC (vAt x (vP x) (vQ x) (vH x - 0 + 1, vU x, vL x) :: r) = topC (x :: r) + 1 := ht1
        have e2 : offC (vAt x (vP x) (vQ x) (vH x - 0 + 1, vU x, vL x) :: r) = offC (x :: r) := rfl
        show topC (x :: r) + offC (x :: r) - 2 = topC (vAt x (vP x) (vQ x) (vH x - 0 + 1, vU x, vL x) :: r) - 3 + offC (vAt x (vP x) (vQ x) (vH x - 0 + 1, vU x, vL x) :: r)
        omega) hF y2 (by rw [y3, y4', y5, ← ya]; exact hvz)
      have hX4 : XR P T gT Q β F ((D ++ D0.map β) ++ K.map β) z' nn g0 g1 g3 g4 g5 gn tq (vAt x (vP x) (vQ x) (vH x - 0 + 1 - 0 - 3 + 1, vU x, vL x) :: r) S' W9 := hX3
      rw [hx, show vH x - 0 + 1 - 0 - 3 + 1 = vH x - 2 + 1 by omega] at hX4
      refine ⟨Q, β, _, nn, g0, g1, g3, g4, g5, gn, _, ?_, XR_drop hX4⟩
      rw [ez] at f1
      obtain ⟨c1', c2', c3', c4', c5', c6', c7', c8', c9', c10', c11', c12', c13', c14', c15', c16', _⟩ := wr
      exact goR (rBt4_1 (d := d + 6) bb (by omega) rfl j1 t108 (j2 t' t1 t2) tS f1 (by omega) (by omega) (by omega) c4' c10' c16' (by omega) ya (by omega) c6' c12' c16' (by omega) c7' c13' c16' (by omega) hpush)
  · rw [if_neg k1] at qo
    exact opR_err (e := 2) h (by omega) (goC (mPp_2 (d := d + 6) (by omega) qo rfl)) (fun P T gT Q β D z nn g0 g1 g3 g4 g5 gn Sr hX => goR (rBt4_3 (d := d + 6) bb (by omega) rfl ((his hX).1 k1) (rfail_T (d := d + 5) 2 (by omega) Sr)))
end
