/-! CALLS, THE REFERENCE: begin -/
/-- a frame's thing, filled -/
def frT (β : Nat → Nat) (W : cS) (r0 t nl a : Nat) (V : Nat → Int32 × Int64 × Int64) : Prop := ∃ v2 v3 v4 v5 v6 v7 n m, tRef W r0 t v2 v3 v4 v5 v6 v7 n m ∧ sI W (100 * t + 0) = nI 7 ∧ sI W (100 * t + 1) = nI nl ∧ nl ≤ n ∧ (∀ e, e < nl → sA W v2 e = (V e).1 ∧ sL W v4 e = (V e).2.1 ∧ sL W v5 e = (V e).2.2) ∧ sI W (100 * t + 11) = lkI β a ∧ sI W (100 * t + 12) = Int32.ofInt (-1)
/-- what is always so of the functions of all texts -/
def FOK (F : Nat → Nat → Nat → Prop) : Prop := (∀ f m j, F f m j → 108 ≤ m → f < 900 ∧ j < 2 ^ 20) ∧ ∀ f m j m' j', F f m j → F f m' j' → 108 ≤ m → 108 ≤ m' → m = m' ∧ j = j'
/-- the instance ahead of the values, in the reference -/
def ioV (β : Nat → Nat) (se : Nat) : Int32 := if se = 0 then Int32.ofInt (-1) else nI (β se)
section
variable {P : Nat → Prop} {T : cS} {gT : Nat} {Q : Nat → Prop} {β β' : Nat → Nat} {F : Nat → Nat → Nat → Prop} {loc par : Nat → Nat → Nat} {ty : Nat → Nat × Nat} {G : Nat → Nat → Nat → Nat × Nat × LL → Prop} {D D' K : List Nat} {z nn g0 g1 g3 g4 g5 gn d n m p q k j f s t i e md st qt r0 tt fn gv se np nl a ba mk : Nat} {l' : List (Nat × Nat)} {tq : Nat → Nat × Nat} {C r : List Lv} {x : Lv} {S S' S1 X W W' Sc Sr : cS} {hi lo : Int64}
/-- a function's thing -/
theorem fn_R (hX : XR P T gT Q β F D z nn g0 g1 g3 g4 g5 gn tq C S Sr) (hfn : lv S fn) (k3 : sA S 3 fn = nI 3) (hFO : FOK F) (hF : F f m j) (hm : 108 ≤ m) (h9 : sA S 9 fn = nI f) (h7 : sA S 7 fn = nI a) (ha : a ≤ 1500) : β fn < 1500 ∧ sA Sr 87 (β fn) ≠ 0 ∧ ∃ g N, sQ Sr 86 (β fn) = some g ∧ 108 ≤ g ∧ (sS Sr)[g - 108]? = some (13, N) ∧ sV Sr (100 * g + 8) = .ref m ∧ sI Sr (100 * g + 9) = nI j ∧ sI Sr (100 * g + 11) = lkI β a := by
  obtain ⟨b1, b2, t, v2, v3, v4, v5, v6, v7, n', m', c1, c2, c3, c4, c5, c6, c7, c8, c9⟩ := hX.1.ob hfn
  obtain ⟨f', m2, j', rr, d1, d2, d3, d4, d5, _, _⟩ := c9.1 k3
  obtain ⟨p1, p2⟩ := hFO.1 f m j hF hm
  obtain ⟨p3, p4⟩ := hFO.1 f' m2 j' d4 d5
  have ef : f = f' := nI_j (by omega) (by omega) (h9.symm.trans d1)
  subst ef
  obtain ⟨e1, e2⟩ := hFO.2 f m j m2 j' hF d4 hm d5
  subst e1 e2
  obtain ⟨q1, q2, ⟨N, q3⟩, _⟩ := c1
  refine ⟨b1, b2, t, N, q1, q2, q3, d2, d3, ?_⟩
  rw [h7] at c7
  unfold lkI
  rcases c7 with ⟨c, c'⟩ | ⟨k, k1, k2, k3', k4⟩
  · rw [if_pos (nI_j (i := a) (j := 0) (by omega) (by omega) c)]
    exact c'
  · have : a = k := nI_j (by omega) (by omega) k3'
    subst this
    rw [if_neg (by omega)]
    exact k4
theorem nar_mk (h : mk < 2) : vp_nar .boolean (nI mk) = nI mk := by
  have : mk = 0 ∨ mk = 1 := by omega
  rcases this with c | c <;> (subst c; decide)
theorem rfV_S {n0 t0 : Nat} {io : Int64} (e1 : sA S' 91 = sA S 91) (e2 : sL S' 92 = sL S 92) (e3 : sL S' 93 = sL S 93) : rfV S' n n0 t0 io = rfV S n n0 t0 io := by
  funext w
  unfold rfV
  rw [e1, e2, e3]
theorem rEn_2 {d : Nat} {S : cS} {m : Nat} {at0 : Nat} {fr : Int32} {bs : Int32} {mk : Int32} {cl : Nat} {tr : Nat} (mat0 : at0 < 2 ^ 20) (hcl : sI S 6159 = nI cl) (mcl : cl < 32) (b1 : cl < 31) (htr : sI (wA 98 cl (nI 0) (wA 97 cl bs (wA 96 cl fr (wA 95 cl (nI at0) S)))) 6163 = nI tr) (mtr : tr < 401) : Bod (d + 8) 349 10 [(0, .ref 61), (1, .ref m), (2, .int (nI at0)), (3, .int fr), (4, .int bs), (5, .int mk)] [] S none (wI 6159 (nI (cl + 1)) (wA 100 cl (vp_nar .boolean mk) (wA 99 cl (nI tr) (wA 98 cl (nI 0) (wA 97 cl bs (wA 96 cl fr (wA 95 cl (nI at0) S))))))) := by
  refine Bod.go dc_349_10 rfl ?_
  refine Bod.get dc_349_11 fr_349_572 (mk_61 _) rfl ?_
  refine Bod.go dc_349_14 rfl ?_
  refine Bod.get dc_349_15 fr_349_502 (mk_61 _) rfl ?_
  refine Bod.eqI (nI cl) (by first | assumption | rfl | exact congrArg nI (by omega) | (simp (disch := omega) only [rIn, rIe, rA, rIA, rLA, rJA, rVI, rQI, rVA, rQA, upd_at,  rAI, rLI, rJI, nI_add, pk_sub, kc_0, kc_1, kc_2, kc_3, kc_4, kc_5, reduceIte, Nat.reduceEqDiff, Nat.add_zero, rI_hold, rI_hold, rL_hold, hcl]; done)) ?_
  refine Bod.go dc_349_18 rfl ?_
  refine Bod.iastN cl rfl (by omega) (by omega) dc_349_19 (mk_95 _) (sa_95 _ _ _) (mu_A _ _ _ _) ?_
  refine Bod.go dc_349_20 rfl ?_
  refine Bod.get dc_349_21 fr_349_505 (mk_61 _) rfl ?_
  refine Bod.go dc_349_24 rfl ?_
  refine Bod.get dc_349_25 fr_349_502 (mk_61 _) rfl ?_
  refine Bod.eqI (nI cl) (by first | assumption | (simp (disch := omega) only [rIn, rIe, rA, rIA, rLA, rJA, rVI, rQI, rVA, rQA, upd_at,  rAI, rLI, rJI, nI_add, pk_sub, kc_0, kc_1, kc_2, kc_3, kc_4, kc_5, reduceIte, Nat.reduceEqDiff, Nat.add_zero, rI_hold, rI_hold, rL_hold, hcl]; done) | (simp (disch := omega) only [rIn, rIe, rA, rIA, rLA, rJA, rVI, rQI, rVA, rQA, upd_at,  rAI, rLI, rJI, nI_add, pk_sub, kc_0, kc_1, kc_2, kc_3, kc_4, kc_5, reduceIte, Nat.reduceEqDiff, Nat.add_zero, rI_hold, rI_hold, rL_hold, hcl]; exact congrArg nI (by omega))) ?_
  refine Bod.go dc_349_28 rfl ?_
  refine Bod.iastN cl rfl (by omega) (by omega) dc_349_29 (mk_96 _) (sa_96 _ _ _) (mu_A _ _ _ _) ?_
  refine Bod.go dc_349_30 rfl ?_
  refine Bod.get dc_349_31 fr_349_596 (mk_61 _) rfl ?_
  refine Bod.go dc_349_34 rfl ?_
  refine Bod.get dc_349_35 fr_349_502 (mk_61 _) rfl ?_
  refine Bod.eqI (nI cl) (by first | assumption | (simp (disch := omega) only [rIn, rIe, rA, rIA, rLA, rJA, rVI, rQI, rVA, rQA, upd_at,  rAI, rLI, rJI, nI_add, pk_sub, kc_0, kc_1, kc_2, kc_3, kc_4, kc_5, reduceIte, Nat.reduceEqDiff, Nat.add_zero, rI_hold, rI_hold, rL_hold, hcl]; done) | (simp (disch := omega) only [rIn, rIe, rA, rIA, rLA, rJA, rVI, rQI, rVA, rQA, upd_at,  rAI, rLI, rJI, nI_add, pk_sub, kc_0, kc_1, kc_2, kc_3, kc_4, kc_5, reduceIte, Nat.reduceEqDiff, Nat.add_zero, rI_hold, rI_hold, rL_hold, hcl]; exact congrArg nI (by omega))) ?_
  refine Bod.go dc_349_38 rfl ?_
  refine Bod.iastN cl rfl (by omega) (by omega) dc_349_40 (mk_97 _) (sa_97 _ _ _) (mu_A _ _ _ _) ?_
  refine Bod.go dc_349_41 rfl ?_
  refine Bod.get dc_349_42 fr_349_578 (mk_61 _) rfl ?_
  refine Bod.go dc_349_45 rfl ?_
  refine Bod.get dc_349_46 fr_349_502 (mk_61 _) rfl ?_
  refine Bod.eqI (nI cl) (by first | assumption | (simp (disch := omega) only [rIn, rIe, rA, rIA, rLA, rJA, rVI, rQI, rVA, rQA, upd_at,  rAI, rLI, rJI, nI_add, pk_sub, kc_0, kc_1, kc_2, kc_3, kc_4, kc_5, reduceIte, Nat.reduceEqDiff, Nat.add_zero, rI_hold, rI_hold, rL_hold, hcl]; done) | (simp (disch := omega) only [rIn, rIe, rA, rIA, rLA, rJA, rVI, rQI, rVA, rQA, upd_at,  rAI, rLI, rJI, nI_add, pk_sub, kc_0, kc_1, kc_2, kc_3, kc_4, kc_5, reduceIte, Nat.reduceEqDiff, Nat.add_zero, rI_hold, rI_hold, rL_hold, hcl]; exact congrArg nI (by omega))) ?_
  refine Bod.ic 0 (by decide) dc_349_49 ?_
  refine Bod.iastN cl rfl (by omega) (by omega) dc_349_50 (mk_98 _) (sa_98 _ _ _) (mu_A _ _ _ _) ?_
  refine Bod.go dc_349_51 rfl ?_
  refine Bod.get dc_349_52 fr_349_599 (mk_61 _) rfl ?_
  refine Bod.go dc_349_55 rfl ?_
  refine Bod.get dc_349_56 fr_349_502 (mk_61 _) rfl ?_
  refine Bod.eqI (nI cl) (by first | assumption | (simp (disch := omega) only [rIn, rIe, rA, rIA, rLA, rJA, rVI, rQI, rVA, rQA, upd_at,  rAI, rLI, rJI, nI_add, pk_sub, kc_0, kc_1, kc_2, kc_3, kc_4, kc_5, reduceIte, Nat.reduceEqDiff, Nat.add_zero, rI_hold, rI_hold, rL_hold, hcl]; done) | (simp (disch := omega) only [rIn, rIe, rA, rIA, rLA, rJA, rVI, rQI, rVA, rQA, upd_at,  rAI, rLI, rJI, nI_add, pk_sub, kc_0, kc_1, kc_2, kc_3, kc_4, kc_5, reduceIte, Nat.reduceEqDiff, Nat.add_zero, rI_hold, rI_hold, rL_hold, hcl]; exact congrArg nI (by omega))) ?_
  refine Bod.go dc_349_59 rfl ?_
  refine Bod.get dc_349_60 fr_349_558 (mk_61 _) rfl ?_
  refine Bod.eqI (nI tr) (by first | assumption | (simp (disch := omega) only [rIn, rIe, rA, rIA, rLA, rJA, rVI, rQI, rVA, rQA, upd_at,  rAI, rLI, rJI, nI_add, pk_sub, kc_0, kc_1, kc_2, kc_3, kc_4, kc_5, reduceIte, Nat.reduceEqDiff, Nat.add_zero, rI_hold, rI_hold, rL_hold, hcl, htr]; done) | (simp (disch := omega) only [rIn, rIe, rA, rIA, rLA, rJA, rVI, rQI, rVA, rQA, upd_at,  rAI, rLI, rJI, nI_add, pk_sub, kc_0, kc_1, kc_2, kc_3, kc_4, kc_5, reduceIte, Nat.reduceEqDiff, Nat.add_zero, rI_hold, rI_hold, rL_hold, hcl, htr]; exact congrArg nI (by omega))) ?_
  refine Bod.iastN cl rfl (by omega) (by omega) dc_349_63 (mk_99 _) (sa_99 _ _ _) (mu_A _ _ _ _) ?_
  refine Bod.go dc_349_64 rfl ?_
  refine Bod.get dc_349_65 fr_349_602 (mk_61 _) rfl ?_
  refine Bod.go dc_349_68 rfl ?_
  refine Bod.get dc_349_69 fr_349_502 (mk_61 _) rfl ?_
  refine Bod.eqI (nI cl) (by first | assumption | (simp (disch := omega) only [rIn, rIe, rA, rIA, rLA, rJA, rVI, rQI, rVA, rQA, upd_at,  rAI, rLI, rJI, nI_add, pk_sub, kc_0, kc_1, kc_2, kc_3, kc_4, kc_5, reduceIte, Nat.reduceEqDiff, Nat.add_zero, rI_hold, rI_hold, rL_hold, hcl, htr]; done) | (simp (disch := omega) only [rIn, rIe, rA, rIA, rLA, rJA, rVI, rQI, rVA, rQA, upd_at,  rAI, rLI, rJI, nI_add, pk_sub, kc_0, kc_1, kc_2, kc_3, kc_4, kc_5, reduceIte, Nat.reduceEqDiff, Nat.add_zero, rI_hold, rI_hold, rL_hold, hcl, htr]; exact congrArg nI (by omega))) ?_
  refine Bod.go dc_349_72 rfl ?_
  refine Bod.zastN cl rfl (by omega) (by omega) dc_349_74 (mk_100 _) (sa_100 _ _ _) (mu_A _ _ _ _) ?_
  refine Bod.go dc_349_75 rfl ?_
  refine Bod.go dc_349_76 rfl ?_
  refine Bod.get dc_349_77 fr_349_502 (mk_61 _) rfl ?_
  refine Bod.eqI (nI cl) (by first | assumption | (simp (disch := omega) only [rIn, rIe, rA, rIA, rLA, rJA, rVI, rQI, rVA, rQA, upd_at,  rAI, rLI, rJI, nI_add, pk_sub, kc_0, kc_1, kc_2, kc_3, kc_4, kc_5, reduceIte, Nat.reduceEqDiff, Nat.add_zero, rI_hold, rI_hold, rL_hold, hcl, htr]; done) | (simp (disch := omega) only [rIn, rIe, rA, rIA, rLA, rJA, rVI, rQI, rVA, rQA, upd_at,  rAI, rLI, rJI, nI_add, pk_sub, kc_0, kc_1, kc_2, kc_3, kc_4, kc_5, reduceIte, Nat.reduceEqDiff, Nat.add_zero, rI_hold, rI_hold, rL_hold, hcl, htr]; exact congrArg nI (by omega))) ?_
  refine Bod.ic 1 (by decide) dc_349_80 ?_
  refine Bod.addN (cl + 1) (by omega) dc_349_81 ?_
  refine Bod.put dc_349_82 fr_349_502 (mk_61 _) (Nat.le_of_ble_eq_true rfl) pf_14_59 (st_6159 _ _) (mu_I _ _ _) ?_
  exact Bod.retV dc_349_85 rt_349
/-- the reference's enter -/
theorem ent_R {cl tr tp : Nat} {fr bs : Int32} (hcl : sI W 6159 = nI cl) (mcl : cl < 31) (hm : 108 ≤ m) (hs : ∃ zm, (sS W)[m - 108]? = some (12, zm)) (htr : sI W 6163 = nI tr) (mtr : tr < 401) (hqt : qt < 2 ^ 20) (hmk : mk < 2) : Ans (d + 9) 349 [.ref 61, .ref m, .int (nI qt), .int fr, .int bs, .int (nI mk)] (wI 6151 (nI tp) W) none (rEnW cl m qt fr bs (nI mk) tr tp W) := by
  obtain ⟨zm, hs⟩ := hs
  have hcl' : sI (wI 6151 (nI tp) W) 6159 = nI cl := (rIn _ _ (by decide)).trans hcl
  have htr' : sI (wA 98 cl (nI 0) (wA 97 cl bs (wA 96 cl fr (wA 95 cl (nI qt) (wQ 94 cl (some m) (wI 6151 (nI tp) W)))))) 6163 = nI tr := by
    show sI (wI 6151 (nI tp) W) 6163 = _
    exact (rIn _ _ (by decide)).trans htr
  have hb := rEn_2 (d := d) (S := wQ 94 cl (some m) (wI 6151 (nI tp) W)) (m := m) (at0 := qt) (fr := fr) (bs := bs) (mk := nI mk) (cl := cl) (tr := tr) hqt hcl' (by omega) mcl htr' mtr
  rw [nar_mk hmk] at hb
  refine Ans.of (by rw [ml_349]; exact Nat.le_of_ble_eq_true rfl) (Bod.lv (by rfl) (enter_0 (d := d + 8) (t := 0) (m := m) hcl' mcl hm hs hb))
theorem bgn_R (h : CI F loc par ty G tq (x :: r) S) (hX : XR P T gT Q β F D z nn g0 g1 g3 g4 g5 gn tq (x :: r) S Sr) (hfn : lv S fn) (k3 : sA S 3 fn = nI 3) (hFO : FOK F) (hF : F f m j) (hm : 108 ≤ m) (h9 : sA S 9 fn = nI f) (h7 : sA S 7 fn = nI a) (ha : a ≤ 1500) (hb : ∀ w, w = a ∨ w = se → w ≠ 0 → lv S w) (hr9 : riT P T m 9 j (nI np)) (hr10 : riT P T m 10 j (nI nl)) (hr8 : riT P T m 8 j (nI qt)) (hnp : np < 2 ^ 20) (hnl : nl < 2 ^ 20) (hqt : qt < 2 ^ 20) (hpl : np ≤ nl) (hgv : gv ≤ vH x) (hba : ba < 2 ^ 20) (hmk : mk < 2) : ((gv + f1O se ≠ np → Ans (d + 12) 396 [.ref 61, .int (nI (β fn)), .int (nI ba), .int (nI gv), .int (ioV β se), .int (nI mk)] Sr (some (.int (nI 0))) (wI 6164 (nI 2) Sr)) ∧ (gv + f1O se = np → r.length = 30 → Ans (d + 12) 396 [.ref 61, .int (nI (β fn)), .int (nI ba), .int (nI gv), .int (ioV β se), .int (nI mk)] Sr (some (.int (nI 0))) (wI 6164 (nI 7) Sr)) ∧ (gv + f1O se = np → r.length < 30 → 300 < nl → Ans (d + 12) 396 [.ref 61, .int (nI (β fn)), .int (nI ba), .int (nI gv), .int (ioV β se), .int (nI mk)] Sr (some (.int (nI 0))) (wI 6164 (nI 8) Sr)) ∧ (gv + f1O se = np → r.length < 30 → nl ≤ 300 → nLive S = 1500 → ∃ S1 D', Ans (d + 12) 396 [.ref 61, .int (nI (β fn)), .int (nI ba), .int (nI gv), .int (ioV β se), .int (nI mk)] Sr (some (.int (nI 0))) (wI 6164 (nI 8) S1) ∧ XR P T gT Q β F D' z nn g0 g1 g3 g4 g5 gn tq (x :: r) S S1)) ∧ (gv + f1O se = np → r.length < 30 → nl ≤ 300 → nLive S < 1500 → ∃ r0 t' S1 D' W2, r0 < 1500 ∧ sA S1 87 r0 = 0 ∧ sQ S1 86 r0 = some t' ∧ XR P T gT Q β F D' z nn g0 g1 g3 g4 g5 gn tq (x :: r) S S1 ∧ tF r0 t' S1 W2 ∧ tOk W2 r0 t' ∧ sA W2 87 r0 = nI 1 ∧ frT β W2 r0 t' nl a (rfV S1 (f1O se) gv (topC (x :: r) + offC (x :: r) - gv) (lN (β se))) ∧ Ans (d + 12) 396 [.ref 61, .int (nI (β fn)), .int (nI ba), .int (nI gv), .int (ioV β se), .int (nI mk)] Sr (some (.int (nI 1))) (rEnW (r.length + 1) m qt (nI r0) (nI ba) (nI mk) (vT x + vU x) (topC (x :: r) + offC (x :: r) - gv) W2)) := by
  have m396 := ml_396
  have m349 := ml_349
  have hr30 : r.length ≤ 30 := h.2.2.2.2.2.2.1.2.2.2
  obtain ⟨l1, l2, l3, l4, l5⟩ := CI_len h
  have hT := CI_T h
  obtain ⟨b1, b2, g, N, q1, q2, q3, q4, q5, q6⟩ := fn_R hX hfn k3 hFO hF hm h9 h7 ha
  obtain ⟨_, hj⟩ := hFO.1 f m j hF hm
  obtain ⟨a9, N9, zm9, _, r92, r93, r94, r95, _, r97, r98⟩ := ri_of hX (by omega) hr9
  obtain ⟨a10, N10, _, _, _, r103, r104, r105, _, r107, r108⟩ := ri_of hX (by omega) hr10
  have hcl : sI Sr 6159 = nI (r.length + 1) := hX.2.2.2.2.2.1.2.1
  have sp : (se = 0 ∧ f1O se = 0 ∧ ioV β se = Int32.ofInt (-1)) ∨ (se ≠ 0 ∧ f1O se = 1 ∧ ioV β se = nI (β se) ∧ β se < 1500) := by
    by_cases c : se = 0
    · exact Or.inl ⟨c, if_pos c, if_pos c⟩
    · exact Or.inr ⟨c, if_neg c, if_neg c, hX.1.b (hb se (Or.inr rfl) c)⟩
  have go : ∀ {e : Int32} {W : cS}, Bod (d + 11) 396 0 [(0, .ref 61), (1, .int (nI (β fn))), (2, .int (nI ba)), (3, .int (nI gv)), (4, .int (ioV β se)), (5, .int (nI mk))] [] Sr (some (.int e)) W → Ans (d + 12) 396 [.ref 61, .int (nI (β fn)), .int (nI ba), .int (nI gv), .int (ioV β se), .int (nI mk)] Sr (some (.int e)) W := fun hb => Ans.of (by rw [m396]; exact Nat.le_of_ble_eq_true rfl) (Bod.lv (by rfl) hb)
  refine ⟨⟨fun c => go ?_, fun c c2 => go ?_, fun c c2 c3 => go ?_, fun c c2 c3 c4 => ?_⟩, fun c c2 c3 c4 => ?_⟩
  · rcases sp with ⟨s1, s2, s3⟩ | ⟨s1, s2, s3, s4⟩
    · rw [s3]
      exact rBgN_6 (d := d + 3) (by omega) hba (by omega) (by omega) b1 q2 q1 q3 hm q4 r92 r93 r94 r95 q5 hj r97 r98 hnp (by omega) (rfail_T (d := d + 2) 2 (by omega) Sr)
    · rw [s3]
      exact rBgI_6 (d := d + 3) (by omega) hba (by omega) (by omega) (by omega) b1 q2 q1 q3 hm q4 r92 r93 r94 r95 q5 hj r97 r98 hnp (by omega) (rfail_T (d := d + 2) 2 (by omega) Sr)
  · rcases sp with ⟨s1, s2, s3⟩ | ⟨s1, s2, s3, s4⟩
    · rw [s3]
      exact rBgN_5 (d := d + 3) (by omega) hba (by omega) (by omega) b1 q2 q1 q3 hm q4 r92 r93 r94 r95 q5 hj r97 r98 hnp (by omega) hcl (by omega) (by omega) (rfail_T (d := d + 2) 7 (by omega) Sr)
    · rw [s3]
      exact rBgI_5 (d := d + 3) (by omega) hba (by omega) (by omega) (by omega) b1 q2 q1 q3 hm q4 r92 r93 r94 r95 q5 hj r97 r98 hnp (by omega) hcl (by omega) (by omega) (rfail_T (d := d + 2) 7 (by omega) Sr)
  · rcases sp with ⟨s1, s2, s3⟩ | ⟨s1, s2, s3, s4⟩
    · rw [s3]
      exact rBgN_4 (d := d + 3) (by omega) hba (by omega) (by omega) b1 q2 q1 q3 hm q4 r92 r93 r94 r95 q5 hj r97 r98 hnp (by omega) hcl (by omega) (by omega) r103 r104 r105 r107 r108 hnl c3 (rfail_T (d := d + 2) 8 (by omega) Sr)
    · rw [s3]
      exact rBgI_4 (d := d + 3) (by omega) hba (by omega) (by omega) (by omega) b1 q2 q1 q3 hm q4 r92 r93 r94 r95 q5 hj r97 r98 hnp (by omega) hcl (by omega) (by omega) r103 r104 r105 r107 r108 hnl c3 (rfail_T (d := d + 2) 8 (by omega) Sr)
  · obtain ⟨S1, D', u1, u2⟩ := (new_R (d := d + 1) (kd := nI 7) h hX).1 c4
    refine ⟨S1, D', go ?_, u2⟩
    rcases sp with ⟨s1, s2, s3⟩ | ⟨s1, s2, s3, s4⟩
    · rw [s3]
      exact rBgN_3 (d := d + 3) (by omega) hba (by omega) (by omega) b1 q2 q1 q3 hm q4 r92 r93 r94 r95 q5 hj r97 r98 hnp (by omega) hcl (by omega) (by omega) r103 r104 r105 r107 r108 hnl c3 u1
    · rw [s3]
      exact rBgI_3 (d := d + 3) (by omega) hba (by omega) (by omega) (by omega) b1 q2 q1 q3 hm q4 r92 r93 r94 r95 q5 hj r97 r98 hnp (by omega) hcl (by omega) (by omega) r103 r104 r105 r107 r108 hnl c3 u1
  · obtain ⟨r0, t', S1, D', v1, v2, v3, v4, v5, v6, v7, ⟨lS, v8⟩⟩ := (new_R (d := d + 1) (kd := nI 7) h hX).2 c4
    obtain ⟨u1, u2, u3, u4, u5, u6, u7, u8, u9, u10, u11, u12, u13⟩ := rsT_f (kd := nI 7) v1 v3 v4
    obtain ⟨_, e1b, g', N', y1, y2, y3, y4, y5, y6⟩ := fn_R v5 hfn k3 hFO hF hm h9 h7 ha
    have eg : g' = g := Option.some.inj (y1.symm.trans (v7 _ _ q1))
    subst eg
    have hgt : g' ≠ t' := fun c => by
      subst c
      have := v5.1.wf.2.1 _ _ _ b1 v1 y1 v3
      rw [this] at e1b
      exact e1b v2
    obtain ⟨t108, _, Nt, tS⟩ := tOk_t v4
    obtain ⟨Wh, hWh⟩ : ∃ Wh, Wh = wI (100 * t' + 11) (lkI β a) (rsT r0 t' (nI 7) S1) := ⟨_, rfl⟩
    obtain ⟨z1, z2⟩ := tF_I (j := 11) (q := lkI β a) u1 u2 (by omega)
    rw [← hWh] at z1 z2
    have hS : ∀ (f v : Nat), 2 ≤ f → f ≤ 7 → sV Wh (100 * t' + f) = .ref v → v < 108 + (sS Wh).length := fun f v f2 f7 hv => by
      obtain ⟨w2, w3, w4, w5, w6, w7, n', m', d1, _⟩ := z2
      exact (tRef_v d1 f2 f7 hv).2.1
    have hS1 : ∀ (f v : Nat), 2 ≤ f → f ≤ 7 → sV S1 (100 * t' + f) = .ref v → v < 108 + (sS S1).length := fun f v f2 f7 hv => by
      obtain ⟨w2, w3, w4, w5, w6, w7, n', m', d1, _⟩ := v4
      exact (tRef_v d1 f2 f7 hv).2.1
    have iWh : ∀ w, w ≠ 100 * t' + 11 → sI Wh w = sI (rsT r0 t' (nI 7) S1) w := fun w hw => by rw [hWh]; exact if_neg hw
    have aWh : ∀ b, b ≠ 87 → sA Wh b = sA S1 b := fun b hb => by rw [hWh]; exact u11 b hb
    have lWh : sL Wh = sL S1 := by rw [hWh]; exact u12
    have h87h : sA Wh 87 r0 = nI 1 := by rw [hWh]; exact u7
    have sWh : sS Wh = sS S1 := by rw [hWh]; exact u10
    have f0 : frR Wh Wh r0 t' 0 (fun _ => (Int32.ofInt (-1), 0, 0)) := by
      obtain ⟨w2, w3, w4, w5, w6, w7, n', m', d1, d2, d3, d4⟩ := z2
      exact ⟨w2, w3, w4, w5, w6, w7, n', m', d1, d2, d3, d4, by rw [iWh _ (by omega)]; exact u4, Nat.zero_le _, fun e he => absurd he (Nat.not_lt_zero _), tF.refl _ _ _, fun _ _ => rfl, fun _ _ => ⟨rfl, rfl⟩, ⟨[], by rw [List.append_nil]⟩, rfl⟩
    obtain ⟨W1, x1, x2⟩ := frR_open (d := d + 1) (io := ioV β se) (nn := gv) (all := np) (f0 := g') (fi := r0) (ba := ba) (mk := mk) (rem := nl) c3 t108 q2 (by omega) hba (by omega) (by omega) hnp (by
      rcases sp with ⟨s1, s2, s3⟩ | ⟨s1, s2, s3, s4⟩
      · exact Or.inl s3
      · exact Or.inr ⟨_, by omega, s3⟩) hS (Nat.zero_add nl) f0 (fun _ he => absurd he (Nat.not_lt_zero _))
    have hk91 : ∀ n, n < gv → ∃ y, y < 2 ^ 20 ∧ sA Wh 91 (topC (x :: r) + offC (x :: r) - gv + n) = nI y := fun n hn => by
      obtain ⟨y, y4, ya, _⟩ := XR_k h v5 (i := gv - 1 - n) (by omega)
      rw [show topC (x :: r) + offC (x :: r) - 1 - (gv - 1 - n) = topC (x :: r) + offC (x :: r) - gv + n by omega] at ya
      exact ⟨y, by omega, by rw [aWh 91 (by omega)]; exact ya⟩
    have h51 : sI Wh 6151 = nI (topC (x :: r) + offC (x :: r) - gv + gv) := by
      rw [iWh _ (by omega), u13 _ (by omega), show topC (x :: r) + offC (x :: r) - gv + gv = topC (x :: r) + offC (x :: r) by omega]
      exact XR_51 v5
    -- the instance
    have ins : ∃ W1', frR Wh W1' r0 t' nl (rfV Wh (f1O se) 0 (topC (x :: r) + offC (x :: r) - gv) (lN (β se))) ∧ ∀ {v : Option Value} {Sf : cS}, (∀ lv1, sm_get lv1 0 = some (.ref 61) → sm_get lv1 2 = some (.int (nI ba)) → sm_get lv1 3 = some (.int (nI gv)) → sm_get lv1 5 = some (.int (nI mk)) → sm_get lv1 6 = some (.ref g') → sm_get lv1 7 = some (.int (nI np)) → sm_get lv1 9 = some (.int (nI r0)) → sm_get lv1 10 = some (.ref t') → sm_get lv1 11 = some (.int (nI 0)) → Bod (d + 11) 396 171 lv1 [] W1' v Sf) → ∀ lv1, sm_get lv1 0 = some (.ref 61) → sm_get lv1 2 = some (.int (nI ba)) → sm_get lv1 3 = some (.int (nI gv)) → sm_get lv1 4 = some (.int (ioV β se)) → sm_get lv1 5 = some (.int (nI mk)) → sm_get lv1 6 = some (.ref g') → sm_get lv1 7 = some (.int (nI np)) → sm_get lv1 8 = some (.int (nI nl)) → sm_get lv1 9 = some (.int (nI r0)) → sm_get lv1 10 = some (.ref t') → sm_get lv1 11 = some (.int (nI nl)) → Bod (d + 11) 396 131 lv1 [] W1 v Sf := by
      rcases sp with ⟨s1, s2, s3⟩ | ⟨s1, s2, s3, s4⟩
      · refine ⟨W1, ?_, fun hc lv1 p0 p2 p3 p4 p5 p6 p7 p8 p9 p10 p11 => ?_⟩
        · have e : rfV Wh (f1O se) 0 (topC (x :: r) + offC (x :: r) - gv) (lN (β se)) = fun _ => (Int32.ofInt (-1), 0, 0) := by
            rw [s2]
            funext w
            unfold rfV
            rw [if_neg (Nat.not_lt_zero w), if_neg (Nat.not_lt_zero w)]
          rw [e]
          exact x1
        · rw [s3] at p4
          exact rBgAN_1 (d := d + 3) (zr0 := 0) (zf0 := 0) p0 p2 p3 p4 p5 p6 p7 p8 p9 p10 p11 hba (by omega) (by omega) hnp (by omega) (by omega) (by omega) q2 t108 (Nat.le_refl _) hc
      · obtain ⟨W1', a1, a2, Na, a3⟩ := frR_set (d := d + 1) (e := 0) (kq := nI 3) (xa := lN (β se)) (xb := 0) x1 (by omega) hS
        refine ⟨W1', ?_, fun hc lv1 p0 p2 p3 p4 p5 p6 p7 p8 p9 p10 p11 => ?_⟩
        · have e : rfV Wh (f1O se) 0 (topC (x :: r) + offC (x :: r) - gv) (lN (β se)) = fun w => if w = 0 then (nI 3, lN (β se), 0) else (Int32.ofInt (-1), 0, 0) := by
            rw [s2]
            funext w
            unfold rfV
            by_cases cw : w = 0
            · rw [if_pos (by omega), if_pos cw]
            · rw [if_neg (show ¬ w < 1 by omega), if_neg (show ¬ w < 1 + 0 by omega), if_neg cw]
          rw [e]
          exact a2
        · rw [s3] at p4
          rw [← nI_ll (n := β se) (by omega)] at a1
          exact rBgAI_1 (d := d + 3) (zf0 := 0) p0 p2 p3 p4 p5 p6 p7 p8 p9 p10 p11 hba (by omega) (by omega) (by omega) hnp (by omega) (by omega) (by omega) q2 t108 (Nat.le_refl _) (a1.up (by omega)) a3 hc
    obtain ⟨W1', x3, x4⟩ := ins
    obtain ⟨W2, x5, x6⟩ := frR_args (d := d + 1) (all := np) (f0 := g') (fi := r0) (ba := ba) (mk := mk) (rem := gv) c3 t108 q2 (by omega) hba (by omega) (by omega) (by unfold f1O; split <;> omega) (by omega) hpl h51 hk91 hS (Nat.zero_add gv) x3
    obtain ⟨k2, k3', k4, k5, k6, k7, n', m', o1, o2, o3, o4, o5, o6, o7, o8, o9, o10, ⟨lo', o11⟩, o12⟩ := x5
    have i2 : ∀ w, w ≠ 100 * t' + 1 → w ≠ 100 * t' + 11 → sI W2 w = sI (rsT r0 t' (nI 7) S1) w := fun w h1 h2 => (o9 w h1).trans (iWh w h2)
    have sN : ∀ (b : Nat) (y : Nat × Nat), (sS S1)[b]? = some y → (sS W2)[b]? = some y := fun b y hb => by
      rw [o11, sWh, List.getElem?_append_left (List.getElem?_eq_some_iff.mp hb).1]
      exact hb
    -- the function's thing and its code there
    have vWh : ∀ w, w ≠ 100 * t' + 8 → sV Wh w = sV S1 w := fun w hw => by
      rw [hWh]
      show sV (rsT r0 t' (nI 7) S1) w = _
      unfold rsT
      exact if_neg hw
    have tFi := o8.2.2.2.1
    have gi : ∀ w, w ≤ 12 → sI W2 (100 * g' + w) = sI S1 (100 * g' + w) ∧ sV W2 (100 * g' + w) = sV S1 (100 * g' + w) := fun w hw => by
      obtain ⟨p1, p2⟩ := tFi (100 * g' + w) (fun j hj => by omega)
      refine ⟨p1.trans ?_, p2.trans (vWh _ (by omega))⟩
      rw [iWh _ (by omega)]
      unfold rsT
      exact (rIn _ _ (by omega)).trans ((rIn _ _ (by omega)).trans ((rIn _ (wI (100 * t' + 0) (nI 7) (wA 87 r0 (vp_nar .boolean (nI 1)) S1)) (by omega)).trans (rIn _ (wA 87 r0 (vp_nar .boolean (nI 1)) S1) (by omega))))
    obtain ⟨a8, N8, zm8, _, r82, r83, r84, r85, r86, r87, r88⟩ := ri_of v5 (by omega) hr8
    have hmt : m ≠ t' := fun c => by
      subst c
      rw [r82] at tS
      have := Option.some.inj tS
      injection this with h1' _
      exact absurd h1' (by decide)
    have mv8 : sV W2 (100 * m + 8) = .ref a8 := ((tFi (100 * m + 8) (fun j hj => by omega)).2.trans (vWh _ (by omega))).trans r83
    have iK : isK W2 a8 0 N8 := isK_A (l := lo') (by rw [o11, sWh]) r84
    have hQ8 := tF_Q (a := a8) v5.1.wf (z1.trans o8 hS1) v1 v3 (by
      have h11 := v5.2.2.2.2.2.2.2.2.2.2
      obtain ⟨a80, N80, zm80, p81, p82, p83, p84, p85, p86, p87, p88⟩ := hr8
      obtain ⟨_, _, b3', ⟨lb, b4'⟩, _, _, b7', _⟩ := v5.2.2.2.2.2.2.2.2.2.1
      have := (b7' m zm80 p81 p82 8 (by omega)).2
      rw [p83, r83] at this
      have ea := Value.ref.inj this
      rw [ea]
      exact (h11.1 a80 p86).1) (by omega)
    have he8 : sA (wI 6151 (nI (topC (x :: r) + offC (x :: r) - gv)) W2) a8 j = nI qt := by
      show sA W2 a8 j = nI qt
      rw [hQ8.1]
      exact r88
    have h59 : sI W2 6159 = nI (r.length + 1) := by
      rw [i2 _ (by omega) (by omega), u13 _ (by omega)]
      exact v5.2.2.2.2.2.1.2.1
    have h63 : sI W2 6163 = nI (vT x + vU x) := by
      rw [i2 _ (by omega) (by omega), u13 _ (by omega)]
      exact v5.2.2.2.2.2.1.2.2
    have hcb := cCal_b h.2.2.2.2.1 h.2.2.1
    have hu10 : vU x ≤ 10 := h.2.2.1.2.1.2.2.2.2
    have hent := ent_R (d := d + 2) (W := W2) (cl := r.length + 1) (tr := vT x + vU x) (tp := topC (x :: r) + offC (x :: r) - gv) (fr := nI r0) (bs := nI ba) h59 (by omega) hm ⟨zm8, sN _ _ r82⟩ h63 (by omega) hqt hmk
    have hf9 : sI (wI 6151 (nI (topC (x :: r) + offC (x :: r) - gv)) W2) (100 * g' + 9) = nI j := (rIn _ _ (by omega)).trans ((gi 9 (by omega)).1.trans y5)
    have e51 : sI W2 6151 = nI (topC (x :: r) + offC (x :: r)) := by
      rw [o9 _ (by omega), h51, show topC (x :: r) + offC (x :: r) - gv + gv = topC (x :: r) + offC (x :: r) by omega]
    have tail : ∀ lv1, sm_get lv1 0 = some (.ref 61) → sm_get lv1 2 = some (.int (nI ba)) → sm_get lv1 3 = some (.int (nI gv)) → sm_get lv1 5 = some (.int (nI mk)) → sm_get lv1 6 = some (.ref g') → sm_get lv1 7 = some (.int (nI np)) → sm_get lv1 9 = some (.int (nI r0)) → sm_get lv1 10 = some (.ref t') → sm_get lv1 11 = some (.int (nI gv)) → Bod (d + 11) 396 171 lv1 [] W2 (some (.int 1)) (rEnW (r.length + 1) m qt (nI r0) (nI ba) (nI mk) (vT x + vU x) (topC (x :: r) + offC (x :: r) - gv) W2) := fun lv1 p0 p2 p3 p5 p6 p7 p9 p10 p11 =>
      rBgB_1 (d := d + 3) (zr0 := 0) p0 p2 p3 p5 p6 p7 p9 p10 p11 hba (by omega) (by omega) hnp (by omega) (by omega) q2 t108 (Nat.le_refl _) e51 (by omega) (by omega) (sN _ _ y3) hm ((gi 8 (by omega)).2.trans y4) (sN _ _ r82) mv8 iK r85 hf9 hj r87 he8 hqt hent
    have run := x2 (fun lv1 p0 p2 p3 p4 p5 p6 p7 p8 p9 p10 p11 => x4 (fun lv2 w0 w2 w3 w5 w6 w7 w9 w10 w11 => x6 tail lv2 w0 w2 w3 w5 w6 w7 w9 w10 w11) lv1 p0 p2 p3 p4 p5 p6 p7 p8 p9 p10 p11)
    have hla : a ≠ 0 → lkI β a = nI (β a) ∧ β a < 1500 := fun c0 => ⟨if_neg c0, hX.1.b (hb a (Or.inl rfl) c0)⟩
    have gR : ∀ w, w ≠ 8 → w ≤ 12 → sI (rsT r0 t' (nI 7) S1) (100 * g' + w) = sI S1 (100 * g' + w) := fun w _ hw => by
      unfold rsT
      exact (rIn _ _ (by omega)).trans ((rIn _ _ (by omega)).trans ((rIn _ (wI (100 * t' + 0) (nI 7) (wA 87 r0 (vp_nar .boolean (nI 1)) S1)) (by omega)).trans (rIn _ (wA 87 r0 (vp_nar .boolean (nI 1)) S1) (by omega))))
    have g11 : sI (rsT r0 t' (nI 7) S1) (100 * g' + 11) = lkI β a := (gR 11 (by omega) (by omega)).trans y6
    have hzg : (sS (rsT r0 t' (nI 7) S1))[g' - 108]? = some (13, N) := by
      rw [u10, v8, List.getElem?_append_left (List.getElem?_eq_some_iff.mp q3).1]
      exact q3
    have hzt : (sS (rsT r0 t' (nI 7) S1))[t' - 108]? = some (13, Nt) := by rw [u10]; exact tS
    have hqt' : sQ (rsT r0 t' (nI 7) S1) 86 r0 = some t' := by rw [u9]; exact v3
    refine ⟨r0, t', S1, D', W2, v1, v2, v3, v5, z1.trans o8 hS1, ⟨k2, k3', k4, k5, k6, k7, n', m', o1, o2, o3, o4⟩, by rw [(o10 87 (by omega)).1]; exact h87h, ⟨k2, k3', k4, k5, k6, k7, n', m', o1, by rw [i2 _ (by omega) (by omega)]; exact u3, o5, o6, fun e he => ?_, by rw [o9 _ (by omega), hWh, rIe], by rw [i2 _ (by omega) (by omega)]; exact u6⟩, go ?_⟩
    · rw [← rfV_S (S' := Wh) (S := S1) (aWh 91 (by omega)) (by rw [lWh]) (by rw [lWh])]
      exact o7 e he
    · rcases sp with ⟨s1, s2, s3⟩ | ⟨s1, s2, s3, s4⟩
      · rw [s3] at run ⊢
        by_cases c0 : a = 0
        · have eW : wI (100 * t' + 11) (Int32.ofInt (-1)) (rsT r0 t' (nI 7) S1) = Wh := by rw [hWh]; unfold lkI; rw [if_pos c0]
          have g11' : sI (rsT r0 t' (nI 7) S1) (100 * g' + 11) = Int32.ofInt (-1) := by rw [g11]; unfold lkI; rw [if_pos c0]
          exact rBgN_2 (d := d + 3) (by omega) hba (by omega) (by omega) b1 q2 q1 q3 hm q4 r92 r93 r94 r95 q5 hj r97 r98 hnp (by omega) hcl (by omega) (by omega) r103 r104 r105 r107 r108 hnl c3 v1 v6 t108 hqt' hzg g11' hzt (fun lv1 p0 p2 p3 p4 p5 p6 p7 p8 p9 p10 p11 => by rw [eW]; exact run lv1 p0 p2 p3 p4 p5 p6 (by rw [p7]; exact congrArg _ (congrArg _ (congrArg _ (by omega)))) p8 p9 p10 p11)
        · obtain ⟨l1', l2'⟩ := hla c0
          rw [l1'] at g11
          have eW : wI (100 * t' + 11) (nI (β a)) (rsT r0 t' (nI 7) S1) = Wh := by rw [hWh, l1']
          exact rBgN_1 (d := d + 3) (by omega) hba (by omega) (by omega) b1 q2 q1 q3 hm q4 r92 r93 r94 r95 q5 hj r97 r98 hnp (by omega) hcl (by omega) (by omega) r103 r104 r105 r107 r108 hnl c3 v1 v6 t108 hqt' hzg g11 (by omega) hzt (fun lv1 p0 p2 p3 p4 p5 p6 p7 p8 p9 p10 p11 => by rw [eW]; exact run lv1 p0 p2 p3 p4 p5 p6 (by rw [p7]; exact congrArg _ (congrArg _ (congrArg _ (by omega)))) p8 p9 p10 p11)
      · rw [s3] at run ⊢
        by_cases c0 : a = 0
        · have eW : wI (100 * t' + 11) (Int32.ofInt (-1)) (rsT r0 t' (nI 7) S1) = Wh := by rw [hWh]; unfold lkI; rw [if_pos c0]
          have g11' : sI (rsT r0 t' (nI 7) S1) (100 * g' + 11) = Int32.ofInt (-1) := by rw [g11]; unfold lkI; rw [if_pos c0]
          exact rBgI_2 (d := d + 3) (by omega) hba (by omega) (by omega) (by omega) b1 q2 q1 q3 hm q4 r92 r93 r94 r95 q5 hj r97 r98 hnp (by omega) hcl (by omega) (by omega) r103 r104 r105 r107 r108 hnl c3 v1 v6 t108 hqt' hzg g11' hzt (fun lv1 p0 p2 p3 p4 p5 p6 p7 p8 p9 p10 p11 => by rw [eW]; exact run lv1 p0 p2 p3 p4 p5 p6 (by rw [p7]; exact congrArg _ (congrArg _ (congrArg _ (by omega)))) p8 p9 p10 p11)
        · obtain ⟨l1', l2'⟩ := hla c0
          rw [l1'] at g11
          have eW : wI (100 * t' + 11) (nI (β a)) (rsT r0 t' (nI 7) S1) = Wh := by rw [hWh, l1']
          exact rBgI_1 (d := d + 3) (by omega) hba (by omega) (by omega) (by omega) b1 q2 q1 q3 hm q4 r92 r93 r94 r95 q5 hj r97 r98 hnp (by omega) hcl (by omega) (by omega) r103 r104 r105 r107 r108 hnl c3 v1 v6 t108 hqt' hzg g11 (by omega) hzt (fun lv1 p0 p2 p3 p4 p5 p6 p7 p8 p9 p10 p11 => by rw [eW]; exact run lv1 p0 p2 p3 p4 p5 p6 (by rw [p7]; exact congrArg _ (congrArg _ (congrArg _ (by omega)))) p8 p9 p10 p11)
end
