/-! CALLS THAT END: RETURN on both sides (8 | 29) -/
theorem FrL_rgw {Y S' : cS} (h : FrL rgI [] [] Y S') : CFw Y S' := by
  have s1 : ∀ i, i ∈ rgI → i ∈ cfI1 := by decide
  have e1 : rwC S' = rwC Y := sumN_congr (fun k _ => by rw [rlen_S h.2.2.2.1 h.2.2.2.2.1])
  have e2 : rwN S' = rwN Y := sumN_congr (fun k _ => by rw [rlen_S h.2.2.2.1 h.2.2.2.2.1])
  exact ⟨h.1, h.2.2.1, fun i hi => h.I (fun c => hi (s1 i c)), fun a _ => h.A (fun c => by cases c), fun a _ _ => by rw [rg_L h], fun a _ _ _ => by rw [rg_L h], fun a _ => by rw [h.2.2.2.1], ⟨[], by rw [h.2.2.2.2.1, List.append_nil]⟩, fun k a _ hq => Or.inl (by rw [← h.2.2.2.1]; exact hq), by rw [e1, h.2.2.2.2.2.1]; exact Nat.le_refl _, by rw [e2, h.2.2.2.2.1]; exact Nat.le_refl _⟩
theorem KXr_w {K : List Nat} {S S' : cS} (h : KXr K S S') : CFw S S' := by
  obtain ⟨Y, h1, h2⟩ := h
  exact (CFr_KX h1).w.trans (FrL_rgw h2)
theorem KXr_t {K1 K2 : List Nat} {S S1 S2 : cS} (h : KXr K1 S S1) (h2 : KXr K2 S1 S2) (hcl : h_cl S1) (hok : ∀ k, 1 ≤ k → k ≤ 1500 → h_ok S k) : KXr (K1 ++ K2) S S2 := by
  obtain ⟨Z, a1, a2⟩ := h2
  obtain ⟨Y, b1, b2⟩ := KXr_X h a1 hcl hok
  exact ⟨Y, b1, b2.trans a2⟩
section
variable {P : Nat → Prop} {T : cS} {gT : Nat} {Q : Nat → Prop} {β β' : Nat → Nat} {F : Nat → Nat → Nat → Prop} {loc par : Nat → Nat → Nat} {ty : Nat → Nat × Nat} {G : Nat → Nat → Nat → Nat × Nat × LL → Prop} {D D' K : List Nat} {z nn g0 g1 g3 g4 g5 gn d n m p q p' q' pT k e e1 oc ln tp h' u' i s t b h2 : Nat} {l : LL} {l2 : LL} {tq : Nat → Nat × Nat} {C r : List Lv} {x y : Lv} {S S' S1 X W Sc Sr : cS} {w : Nat → Int32} {St : (Nat → Prop) → cS → Prop} {ok : List Lv → Prop} {hi lo : Int64}
theorem PC_rg (h : PC w pT S) (hK : KXr K S S') : PC w pT S' := ⟨(KXr_A hK (by decide)).trans h.1, (KXr_N hK (by decide) (by decide)).trans h.2.1, h.2.2⟩
theorem clk_rg (h : clk S) (hK : KXr K S S') : clk S' := by
  obtain ⟨s, f, h1, h2, h3⟩ := h
  exact ⟨s, f, (KXr_N hK (by decide) (by decide)).trans h1, (KXr_N hK (by decide) (by decide)).trans h2, h3⟩
/-- the marks of a call whose topmost value is put anew -/
theorem mkOk_top (hm : mkOk S b (t + 1) l) (hl : lob l ≤ t) (hs : srt l.1) (e : ∀ i, i < b + t → sL S' 47 i = sL S 47 i ∧ sL S' 48 i = sL S 48 i) (hv : stLv (b + t) S') (hk : ∀ o, lv S' o → sA S' 3 o = sA S 3 o) (h0 : c_kind (sL S' 47 (b + t)) ≠ 0) (h5 : c_kind (sL S' 47 (b + t)) ≠ nI 5) : mkOk S' b (t + 1) l := by
  have h1 : mkOk S b t l := ⟨fun i hi => hm.1 i (by omega), hm.2⟩
  have h2 := mkOk_K (S' := S') (n := b + t) h1 (by omega) hl hs e hv hk
  refine ⟨fun i hi => ?_, h2.2⟩
  by_cases c : i = t
  · rw [c]
    exact ⟨h0, fun c => absurd c h5⟩
  · exact h2.1 i (by omega)
theorem gC_0 : ∀ C : List Lv, gC C 0 = 0
  | [] => rfl
  | x :: r => by
    show dl (vF x) 0 + dl (vD x) 0 + gC r 0 = 0
    have e : ∀ k, dl k 0 = 0 := fun k => if_neg (fun c => c.1 c.2.symm)
    rw [e, e, gC_0 r]
theorem ret_S (h : CI F loc par ty G tq (x :: y :: r) S) (hpc : PC w pT S) (hck : clk S) (h5 : sI S 5216 = nI (vP x)) (hp : vP x < pT) (hw0 : w (vP x) = nI 8) (hl : lob (vL x) + 1 ≤ vH x) (hex : exX F tq (x :: y :: r) S) (hok : G (vM y) (vP y) (vQ y) (vS y) → ok (y :: r)) (hq : vQ x + 1 < 2 ^ 20) (hr : ∀ P T, St P T → rwT P T (vM x) (vQ x) (nI 29)) : stp St F loc par G tq w pT (d + 21) (x :: y :: r) S ok := by
  have m147 := ml_147
  have m128 := ml_128
  have m400 := ml_400
  have m420 := ml_420
  have hr30 : (y :: r).length ≤ 30 := h.2.2.2.2.2.2.1.2.2.2
  have en : (y :: r).length = r.length + 1 := rfl
  obtain ⟨l1, l2, l3, l4, l5⟩ := CI_len h
  have hT := CI_T h
  have hpT := hpc.2.2
  have hr1 := rd_T (d := d + 19) hpc h5 (by omega)
  rw [hw0] at hr1
  obtain ⟨S1, hS1⟩ : ∃ S1, S1 = wI 5216 (nI (vP x + 1)) S := ⟨_, rfl⟩
  rw [← hS1] at hr1
  have h1 := CI_opd h hS1 (vP x + 1) (vQ x + 1)
  have hp1 : PC w pT S1 := by rw [hS1]; exact PC_I hpc (by decide)
  have hk1 : clk S1 := by rw [hS1]; exact clk_I hck (by decide) (by decide)
  have hF1' : CFw S S1 := by rw [hS1]; exact CFw_I (by decide)
  have eL1 : sL S1 = sL S := by rw [hS1]; rfl
  have eA1 : sA S1 = sA S := by rw [hS1]; rfl
  -- the call's registers
  obtain ⟨⟨c54, c56, c57, c58, c59, cb, cv, ct, cf, cp⟩, hcy⟩ := h1.2.2.2.2.1
  have c54 : sA S1 54 r.length = nI (vP y) := c54
  have c56 : sA S1 56 r.length = nI (vB x - 1) := c56
  have c57 : sA S1 57 r.length = nI (vT x) := c57
  have c58 : sA S1 58 r.length = nI (vF y) := c58
  have c59 : sA S1 59 r.length = nI (vD x) := c59
  have cb : vB x = vB y + vH y := cb
  have ct : vT x = vT y + vU y := ct
  have cf : vF x ≠ 0 := cf
  have c13 : sI S1 5213 = nI (r.length + 1) := h1.2.2.2.2.2.2.1.1
  have c15 : sI S1 5215 = nI (vF x) := h1.2.2.2.2.2.2.1.2.2.1
  obtain ⟨ln, hln⟩ : ∃ ln, sA S1 55 r.length = nI ln := by
    obtain ⟨P0, T0, gT0, Q0, β0, D0, z0, nn0, a0, a1, a3, a4, a5, gn0, Sr0, hX0⟩ := hex
    obtain ⟨e, _, q2, _⟩ := hX0.2.2.2.2.2.2.2.1.1 r.length (by rw [en]; omega)
    exact ⟨e, by rw [eA1]; exact q2⟩
  have hgp : ∀ z, z ∈ x :: y :: r → (vF z ≠ 0 → lv S1 (vF z)) ∧ (vD z ≠ 0 → lv S1 (vD z)) := fun z hz => by
    obtain ⟨a1, a2⟩ := gC_pos hz
    exact ⟨fun c => h.1.2.2.2.2.2.2.1 _ (a1 c) |> fun hh => by unfold lv; rw [eA1]; exact hh, fun c => h.1.2.2.2.2.2.2.1 _ (a2 c) |> fun hh => by unfold lv; rw [eA1]; exact hh⟩
  have hxl := hgp x List.mem_cons_self
  have hm1 := h1.1
  have ht1 : topC (vAt x (vP x + 1) (vQ x + 1) (vS x) :: y :: r) = vB x + vH x := rfl
  have hb1 : 1 ≤ vB x := by omega
  have hvT : vT x ≤ 10 * 30 := by have := (cCal_b h.2.2.2.2.1 h.2.2.1).2; omega
  -- the value
  obtain ⟨o, o1, o2, o3⟩ := h.1.2.2.2.2.1 (vB x + vH x - 1) (by show _ < vB x + vH x; omega)
  have k0 := (h.2.2.1.1.1 (vH x - 1) (by omega)).1
  have k5 := CI_n5 h (i := 0) (by omega)
  have et : topC (x :: y :: r) - 1 - 0 = vB x + vH x - 1 := rfl
  rw [et] at k5
  rw [show vB x + (vH x - 1) = vB x + vH x - 1 by omega] at k0
  obtain ⟨hi, lo, oo, v1, v2, v3, v4, v5, vc⟩ : ∃ hi lo oo, c_obj hi lo = nI oo ∧ oo ≤ 1500 ∧ (oo = 0 ∨ lv S1 oo) ∧ c_kind hi ≠ 0 ∧ c_kind hi ≠ nI 5 ∧ ((vD x = 0 ∧ hi = sL S1 47 (vB x + vH x - 1) ∧ lo = sL S1 48 (vB x + vH x - 1)) ∨ (vD x ≠ 0 ∧ hi = 4611686018427387904 ∧ lo = lN (vD x))) := by
    by_cases c : vD x = 0
    · refine ⟨sL S1 47 (vB x + vH x - 1), sL S1 48 (vB x + vH x - 1), o, by rw [eL1]; exact o2, o1, by unfold lv; rw [eA1]; exact o3, by rw [eL1]; exact k0, by rw [eL1]; exact k5, Or.inl ⟨c, rfl, rfl⟩⟩
    · have hd := hxl.2 c
      exact ⟨4611686018427387904, lN (vD x), vD x, (ob_obj hd.2.1).1, hd.2.1, Or.inr hd, by decide, by decide, Or.inr ⟨c, rfl, rfl⟩⟩
  obtain ⟨X, K1, A1, m1, x1, x2, x3, x4, _, x6⟩ := mgive_T (d := d + 7) (v := vH x + 1) (hi := hi) (lo := lo) (o := oo) hm1 (by rw [ht1]; omega) (by rw [ht1]; omega) v1 v2 v3 (Or.inl rfl) (fun k => by have := gC_le (C := vAt x (vP x + 1) (vQ x + 1) (vS x) :: y :: r) k; rw [List.length_cons] at this; omega)
  rw [ht1, show vB x + vH x - (vH x + 1) = vB x - 1 by omega] at m1 x2 x3 x4
  rw [show vB x - 1 + 1 = vB x by omega] at m1
  obtain ⟨Y, hY⟩ : ∃ Y, Y = wI 5214 (nI (vT x)) (wI 5216 (nI (vP y)) X) := ⟨_, rfl⟩
  have hFY : FrL rgI [] [] X Y := by rw [hY]; exact FrL_wI (by decide) (FrL_wI (by decide) (FrL.refl _ _ _ _))
  have eAY := rg_A hFY
  have eLY := rg_L hFY
  have xA : ∀ a, a ∉ kxA → sA Y a = sA S1 a := fun a ha => by rw [eAY]; exact x1.1.A ha
  have yI : ∀ i, i ≠ 5214 → i ≠ 5216 → i ∉ kxI → sI Y i = sI S1 i := fun i a1 a2 a3 => by
    rw [hY, rI, if_neg a1, rI, if_neg a2]
    exact x1.1.I a3
  have mY := mHS_rg m1 hFY
  have lvY : ∀ o, 0 < gC (x :: y :: r) o → lv Y o := fun o ho => mY.2.2.2.2.2.2.1 o ho
  have gx := gC_pos (C := x :: y :: r) (y := x) List.mem_cons_self
  have hvF := hxl.1 cf
  have hdl : vD x = 0 ∨ lv Y (vD x) := by
    by_cases c : vD x = 0
    · exact Or.inl c
    · exact Or.inr (lvY _ (gx.2 c))
  have hd15 : vD x ≤ 1500 := by
    rcases hdl with c | c
    · omega
    · exact c.2.1
  obtain ⟨S', K2, A2, m2, x7, x8, i13, i15, i17, i14, i16⟩ := end_C (d := d + 4) (g' := gC (y :: r)) mY (by rw [yI _ (by decide) (by decide) (by decide)]; exact c13) (by omega) (by rw [yI _ (by decide) (by decide) (by decide)]; exact c15) (by rw [xA 58 (by decide)]; exact c58) (by rw [xA 55 (by decide)]; exact hln) (by rw [xA 59 (by decide)]; exact c59) hvF.2.1 (Or.inr (lvY _ (gx.1 cf))) hd15 hdl (fun k _ => by
    show gC (y :: r) k + dl (vF x) k + dl (vD x) k = dl (vF x) k + dl (vD x) k + gC (y :: r) k
    omega) (gC_0 _)
  have kY : KXr K1 S1 Y := ⟨X, x1, hFY⟩
  have kA := KXr_t kY x7 (mHS_cl mY) (mHS_ok hm1)
  have eLS : ∀ a, sL S' a = sL X a := fun a => by rw [x8, eLY]
  have hcl1 : cRg S1 (x :: y :: r) := h1.2.2.2.2.2.2.1
  -- the class's run
  have a59 : sA S1 59 (r.length + 1 - 1) = nI (vD x) := c59
  have a54 : sA X 54 (r.length + 1 - 1) = nI (vP y) := by rw [x1.1.A (by decide)]; exact c54
  have a57 : sA (wI 5216 (sA X 54 (r.length + 1 - 1)) X) 57 (r.length + 1 - 1) = nI (vT x) := by
    show sA X 57 r.length = _
    rw [x1.1.A (by decide)]
    exact c57
  have A2' : Ans (d + 16) 150 [.ref 52] (wI 5214 (nI (vT x)) (wI 5216 (sA X 54 (r.length + 1 - 1)) X)) none S' := by
    rw [a54, ← hY]
    exact A2
  have h46 : sI S1 4603 = nI (vB x + vH x) := (CI_len h1).2.2.1
  have hb47 : Bod (d + 18) 147 0 [(0, .ref 52)] [] S1 (some (.int (nI 0))) S' := by
    have e56 : vB x + vH x - (vB x - 1) = vH x + 1 := by omega
    rcases vc with ⟨c, c1, c2⟩ | ⟨c, c1, c2⟩
    · have q1 := hi_ev (d := d + 16) (S := S1) (b := 0) h46 (by omega) (by omega)
      have q2 := lo_ev (d := d + 16) (S := S1) (b := 0) h46 (by omega) (by omega)
      refine mGb_4 (d := d + 10) (a := 0) (S3 := X) c13 (by omega) (by omega) (by omega) (by rw [a59, c]; decide) q1 q2 h46 (by omega) c56 (by omega) (by omega) (by omega) ?_ a57 (by omega) (A2'.up (by omega))
      rw [e56, show vB x + vH x - 1 - 0 = vB x + vH x - 1 by omega, ← c1, ← c2]
      exact A1.up (by omega)
    · refine mGb_1 (d := d + 10) (a := 0) (S1 := X) c13 (by omega) (by omega) (by omega) ?_ h46 (by omega) c56 (by omega) (by omega) (by omega) ?_ a57 (by omega) (A2'.up (by omega))
      · rw [a59]
        show (if nI (vD x) = 0 then false else true) = true
        exact if_neg (nI_ne (b := 0) (by omega) (by omega) (by omega) : nI (vD x) ≠ nI 0)
      · rw [e56, a59, nI_ll (by omega), ← c1, ← c2]
        exact A1.up (by omega)
  have hA8 : Ans (d + 21) 128 [.ref 52, .int (nI 8)] S1 (some (.int (nI 0))) S' := by
    have q1 : Ans (d + 20) 147 [.ref 52] S1 (some (.int (nI 0))) S' := (Ans.of (by rw [m147]; exact Nat.le_of_ble_eq_true rfl) (Bod.lv (by rfl) hb47)).up (by omega)
    exact Ans.of (by rw [m128]; exact Nat.le_of_ble_eq_true rfl) (Bod.lv (by rfl) (mFw8_1 (d := d + 12) q1))
  have ht : tnC (d + 21) S S' := flw_C (d := d + 13) hr1 (by omega) hA8
  -- what holds of the class then
  have hstk := h1.2.2.1
  obtain ⟨_, _, hmy, hby, _⟩ := hstk
  have hg4 := h1.2.2.2.2.2.1.2.2.2.1 y List.mem_cons_self
  have hokS := mHS_ok hm1
  have hEE : ∀ o, lv S' o → lv S1 o ∧ obE S1 S' o := fun o ho => by
    obtain ⟨a1, a2⟩ := (KXr_lv kA o).mp ho
    exact ⟨a1, KXr_E kA (hokS o a1.1 a1.2.1) a2⟩
  obtain ⟨hh, hhe⟩ : ∃ hh, vH y = hh + 1 := ⟨vH y - 1, by omega⟩
  have e21 : ∀ i, i < vB y + hh → sL S' 47 i = sL S1 47 i ∧ sL S' 48 i = sL S1 48 i := fun i hi => by
    rw [eLS, eLS]
    exact x2 i (by omega)
  have etop : sL S' 47 (vB y + hh) = hi ∧ sL S' 48 (vB y + hh) = lo := by
    rw [eLS, eLS, show vB y + hh = vB x - 1 by omega]
    exact ⟨x3, x4⟩
  have m2' : mHS 0 (gC (y :: r)) (vB y + vH y) S' := by rw [← cb]; exact m2
  have hmk : mkOk S' (vB y) (vH y) (vL y) := by
    rw [hhe] at hmy ⊢
    exact mkOk_top hmy (by have := hg4.2; omega) hby.2.1 e21 (fun i hi => m2'.2.2.2.2.1 i (by omega)) (fun o ho => (hEE o ho).2.1) (by rw [etop.1]; exact v4) (by rw [etop.1]; exact v5)
  have hCI : CI F loc par ty G tq (vAt y (vP y) (vQ y) (vH y, vU y, vL y) :: r) S' := CI_lv (L := [vAt x (vP x + 1) (vQ x + 1) (vS x)]) h1 hEE (KXr_rw kA h1.2.1) m2' (fun a ha => KXr_A kA (fun c => by revert ha c; revert a; decide)) (KXr_L kA (by decide)) (fun i hi => e21 i (by omega)) hmk hby rfl (fun e z l'' hz => ⟨e, hz⟩) ⟨i13, by rw [i14, hY, rIe]; exact congrArg nI ct, i15⟩ (vP y) (vQ y)
  refine Or.inl ⟨ty, tq, y :: r, S', hok hg4.1, ht, hCI, ⟨by rw [i16, hY, rI, if_neg (by decide), rIe]; rfl, PC_rg hp1 kA, clk_rg hk1 kA, hF1'.trans (KXr_w kA)⟩, fun P T gT Q β D z nn g0 g1 g3 g4 g5 gn Sr hS hX => ?_⟩
  have hX1 := XR_opd hX hS1 hq (vP x + 1)
  obtain ⟨R1, hR1⟩ : ∃ R1, R1 = wA 95 (y :: r).length (nI (vQ x + 1)) Sr := ⟨_, rfl⟩
  rw [← hR1] at hX1
  obtain ⟨⟨n1, n2, n3, n4, n5, n6, n7⟩, ny⟩ := hX1.2.2.2.2.1
  have n4 := n4 (List.cons_ne_nil _ _)
  have n4 : sA R1 97 (r.length + 1) = nI (vB x - 1 + offC (y :: r)) := n4
  have n5 : sA R1 99 (r.length + 1) = nI (vT x) := n5
  have n6 : sA R1 100 (r.length + 1) = nI (mkb x) := n6
  have r59 : sI R1 6159 = nI (r.length + 2) := hX1.2.2.2.2.2.1.2.1
  have r51 : sI R1 6151 = nI (vB x + vH x + offC (x :: y :: r)) := hX1.2.2.2.2.2.1.1
  have eo : offC (x :: y :: r) = mkb x + offC (y :: r) := rfl
  have hmb : mkb x ≤ 1 := by unfold mkb; split <;> omega
  have hT' : vB x + vH x + offC (x :: y :: r) ≤ 18700 := hT
  obtain ⟨R2, hR2⟩ : ∃ R2, R2 = wI 6163 (nI (vT x)) (wI 6159 (nI (r.length + 1)) R1) := ⟨_, rfl⟩
  have hXC2 : XC P T gT Q β F D z nn g0 g1 g3 g4 g5 gn S1 R2 := by rw [hR2]; exact XC_I (XC_I (XR_XC hX1) (by decide)) (by decide)
  -- where the value comes from
  obtain ⟨src, s1, s2, s3, s4⟩ : ∃ src, src < 20480 ∧ src ≠ vB x - 1 + offC (y :: r) ∧ vrel β hi lo (sA R2 91 src) (sL R2 92 src) (sL R2 93 src) ∧ ((mkb x = 0 ∧ src = vB x + vH x + offC (x :: y :: r) - 1) ∨ (mkb x = 1 ∧ src = vB x - 1 + offC (y :: r) + 1)) := by
    have q91 : sA R2 91 = sA R1 91 ∧ sL R2 92 = sL R1 92 ∧ sL R2 93 = sL R1 93 := by rw [hR2]; exact ⟨rfl, rfl, rfl⟩
    rw [q91.1, q91.2.1, q91.2.2]
    rcases vc with ⟨c, c1, c2⟩ | ⟨c, c1, c2⟩
    · have hmk0 : mkb x = 0 := if_pos c
      refine ⟨vB x + vH x + offC (x :: y :: r) - 1, by omega, by omega, ?_, Or.inl ⟨hmk0, rfl⟩⟩
      have hv := XR_v hX1 (i := 0) (by show 0 < vH x; omega)
      rw [c1, c2]
      exact hv
    · have hmk1 : mkb x = 1 := if_neg c
      have hd := hxl.2 c
      obtain ⟨b1, b2⟩ := hX1.2.2.2.1.2.1 c
      refine ⟨vB x - 1 + offC (y :: r) + 1, by omega, by omega, ?_, Or.inr ⟨hmk1, rfl⟩⟩
      rw [show vB x - 1 + offC (y :: r) + 1 = vB x + offC (y :: r) by omega, c1, c2]
      exact Or.inr (Or.inr (Or.inr (Or.inr (Or.inl ⟨vD x, hd.1, hd.2.1, rfl, rfl, b1, b2⟩))))
  obtain ⟨ev, f1, f2, _⟩ := vr_k s3 v4
  obtain ⟨W1, A3, w1, w2, w3, w4, w5, w6⟩ := cpy_T (d := d + 8) (Sr := R2) (k := src) (to := vB x - 1 + offC (y :: r)) s1 (by omega) f2 (by omega) s2
  have hfr := w1 _ (Nat.le_refl _)
  obtain ⟨W, hW⟩ : ∃ W, W = wI 6151 (nI (vB x - 1 + offC (y :: r) + 1)) W1 := ⟨_, rfl⟩
  have hbL : Bod (d + 19) 420 0 [(0, .ref 61)] [] R1 (some (.int 1)) W := by
    rw [hW]
    rcases s4 with ⟨c, c'⟩ | ⟨c, c'⟩
    · rw [c] at n6
      refine rLe_1 (d := d + 11) (cl := r.length + 2) (t := vB x + vH x + offC (x :: y :: r)) r59 (by omega) (by omega) n4 (by omega) n6 (by omega) rfl r51 (by omega) (by omega) n5 (by omega) ?_
      rw [← c', show r.length + 2 - 1 = r.length + 1 from rfl, ← hR2]
      exact A3.up (by omega)
    · rw [c] at n6
      refine rLe_2 (d := d + 11) (cl := r.length + 2) r59 (by omega) (by omega) n4 (by omega) n6 (by omega) (by omega) n5 (by omega) ?_
      rw [← c', show r.length + 2 - 1 = r.length + 1 from rfl, ← hR2]
      exact A3.up (by omega)
  have hA4 : Ans (d + 21) 400 [.ref 61, .int (nI 29), .int (nI 0)] R1 (some (.int 1)) W := by
    have q1 : Ans (d + 20) 420 [.ref 61] R1 (some (.int (nI 1))) W := Ans.of (by rw [m420]; exact Nat.le_of_ble_eq_true rfl) (Bod.lv (by rfl) hbL)
    exact Ans.of (by rw [m400]; exact Nat.le_of_ble_eq_true rfl) (Bod.lv (by rfl) (rPl_31 (d := d + 12) (by omega) (by omega) rfl q1))
  rw [hR1] at hA4
  have hrun := hon_n (d := d + 13) (XR_top hX) hr30 (rw_of hX (hr P T hS)) (by omega) (by omega) (by decide) (by decide) (Or.inr rfl) hA4
  -- and of the reference
  have hXCW : XC P T gT Q β F (D ++ (K1 ++ K2).map β) z nn g0 g1 g3 g4 g5 gn S' W := by
    refine XC_K ?_ (mHS_cl hm1) hokS kA
    rw [hW]
    exact XC_I (XC_s hXC2 hfr) (by decide)
  have wA' : ∀ a, a ≠ 91 → a ≠ 104 → a ≠ 105 → sA W a = sA R1 a := fun a a1 a2 a3 => by
    rw [hW]
    show sA W1 a = _
    rw [hfr.2.2.2.2.2.2.1 a a1 a2 a2, hR2]
    rfl
  have wI' : ∀ i, i ≠ 6151 → sI W i = sI R2 i := fun i hi => by
    rw [hW, rI, if_neg hi]
    exact hfr.2.2.2.2.2.1 i hi
  have wQ' : sQ W 94 = sQ R1 94 := by
    rw [hW]
    show sQ W1 94 = _
    rw [hfr.2.1, hR2]
    rfl
  have w91 : sA W 91 = sA W1 91 ∧ sL W 92 = sL W1 92 ∧ sL W 93 = sL W1 93 := by rw [hW]; exact ⟨rfl, rfl, rfl⟩
  have q91 : sA R2 91 = sA R1 91 ∧ sL R2 92 = sL R1 92 ∧ sL R2 93 = sL R1 93 := by rw [hR2]; exact ⟨rfl, rfl, rfl⟩
  have hns : ∀ i, i ≠ vB x - 1 + offC (y :: r) → sA W 91 i = sA R1 91 i ∧ sL W 92 i = sL R1 92 i ∧ sL W 93 i = sL R1 93 i := fun i hi => by
    rw [w91.1, w91.2.1, w91.2.2, ← q91.1, ← q91.2.1, ← q91.2.2]
    exact w3 i hi
  have h4y := hX1.2.2.2.1.2.2
  have h7y := hX1.2.2.2.2.2.2.1.2
  obtain ⟨b8, _⟩ := hX1.2.2.2.2.2.2.2.1
  refine ⟨Q, β, _, nn, g0, g1, g3, g4, g5, gn, W, hrun, XR_lv (q := vQ y) (h' := vH y) (u' := vU y) (l2 := vL y) hXCW h4y ny h7y hcy (fun i hi => ?_) ?_ (fun i hi => e21 i (by omega)) (fun i hi => hns i (by omega)) wQ' (fun a ha => wA' a ?_ ?_ ?_) ⟨fun i _ => by rw [wA' 95 (by decide) (by decide) (by decide)], by rw [wA' 95 (by decide) (by decide) (by decide)]; exact ny.1.2.1⟩ ny.1.2.2.2.2.2.2 (fun i hi => ?_) ⟨?_, ?_, ?_⟩ (fun e z l'' hz => ⟨e, hz⟩) (vP y)⟩
  · obtain ⟨e, e1, e2, e3⟩ := b8 i (by rw [en]; omega)
    exact ⟨e, e1, by rw [KXr_A kA (by decide)]; exact e2, by rw [wA' 98 (by decide) (by decide) (by decide)]; exact e3⟩
  · obtain ⟨e, e1, e2, e3⟩ := b8 r.length (by rw [en]; omega)
    exact ⟨e, e1, by rw [i17, ← hln]; exact e2, by rw [wA' 98 (by decide) (by decide) (by decide)]; exact e3⟩
  · simp only [List.mem_cons, List.not_mem_nil, or_false] at ha; omega
  · simp only [List.mem_cons, List.not_mem_nil, or_false] at ha; omega
  · simp only [List.mem_cons, List.not_mem_nil, or_false] at ha; omega
  · by_cases c : i = hh
    · rw [c, etop.1, etop.2, w91.1, w91.2.1, w91.2.2, show vB y + hh + offC (y :: r) = vB x - 1 + offC (y :: r) by omega, w4, w5, w6]
      exact s3
    · obtain ⟨d1, d2⟩ := e21 (vB y + i) (by omega)
      obtain ⟨d3, d4, d5⟩ := hns (vB y + i + offC (y :: r)) (by omega)
      rw [d1, d2, d3, d4, d5]
      exact h4y.1 i hi
  · rw [hW, rIe]
    congr 1
    omega
  · rw [wI' _ (by decide), hR2, rI, if_neg (by decide), rIe]
  · rw [wI' _ (by decide), hR2, rIe, ct]
end
