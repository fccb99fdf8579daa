/-! CALLS: both sides begin a call of a function -/
section
variable {P : Nat → Prop} {T : cS} {gT : Nat} {Q : Nat → Prop} {β β' : Nat → Nat} {F : Nat → Nat → Nat → Prop} {loc par : Nat → Nat → Nat} {ty : Nat → Nat × Nat} {G : Nat → Nat → Nat → Nat × Nat × LL → Prop} {D D' K : List Nat} {z nn g0 g1 g3 g4 g5 gn d n m p q p' q' pT k e e1 oc ln a nl t t' r0 se gv f1 t0 u0 i s f fn np st qt j : Nat} {tq : Nat → Nat × Nat} {C r : List Lv} {x : Lv} {S S' S0 S1 X W Sc Sr : cS} {w : Nat → Int32} {l' : List (Nat × Nat)} {St : (Nat → Prop) → cS → Prop} {ok : List Lv → Prop} {V : Nat → Int32 × Int64 × Int64}
theorem call_B (h : CI F loc par ty G tq (x :: r) S) (hx : vL x = ((i, 1) :: l', s)) (hi : vH x = i + 1 + gv) (hfn : lv S fn) (k3 : sA S 3 fn = nI 3) (hFO : FOK F) (hfk : fnOK St F loc G w S) (hse : se = 0 ∨ (lv S se ∧ sA S 3 se = nI 5)) (hG : G (vM x) (vP x) (vQ x) (i + 1, vU x, (l', s))) (hkc : c_kind (sL S 47 (vB x + i)) ≠ nI 5) (hka : ∀ n, n < gv → c_kind (sL S 47 (vB x + i + 1 + n)) ≠ nI 5) (h5 : sI S 5216 = nI (vP x)) (hp : vP x < 2 ^ 20) (hln : ∃ ln, ln < 2 ^ 20 ∧ sI S 5217 = nI ln) : (∃ e, (1 ≤ e ∧ e ≤ 100) ∧ Ans (d + 14) 254 [.ref 52, .int (nI fn), .int (nI gv), .int (nI se), .int (nI 0)] S (some (.int (nI e))) S ∧ ∀ P T gT Q β D z nn g0 g1 g3 g4 g5 gn Sr, St P T → XR P T gT Q β F D z nn g0 g1 g3 g4 g5 gn tq (x :: r) S Sr → ∃ D' W, Ans (d + 12) 396 [.ref 61, .int (nI (β fn)), .int (nI (vB x + i + offC (x :: r))), .int (nI gv), .int (ioV β se), .int (nI 0)] Sr (some (.int (nI 0))) W ∧ sI W 6164 = nI e ∧ XRe P T gT Q β F D' z nn g0 g1 g3 g4 g5 gn tq x r S W) ∨ ∃ k m j st qt S' ty', Ans (d + 14) 254 [.ref 52, .int (nI fn), .int (nI gv), .int (nI se), .int (nI 0)] S (some (.int (nI 0))) S' ∧ CI F loc par ty' G tq ((m, vB x + i + 1, k, 0, vT x + vU x, (st, qt), (0, 0, ([], j + 1))) :: vAt x (vP x) (vQ x) (i + 1, vU x, (l', s)) :: r) S' ∧ G m st qt (0, 0, ([], j + 1)) ∧ w st = nI 1 ∧ sI S' 5216 = nI st ∧ CFw S S' ∧ (∀ b, b ∈ [5217, 5218, 5219, 4906] → sI S' b = sI S b) ∧ ∀ P T gT Q β D z nn g0 g1 g3 g4 g5 gn Sr, St P T → XR P T gT Q β F D z nn g0 g1 g3 g4 g5 gn tq (x :: r) S Sr → ∃ β' D' W, Ans (d + 12) 396 [.ref 61, .int (nI (β fn)), .int (nI (vB x + i + offC (x :: r))), .int (nI gv), .int (ioV β se), .int (nI 0)] Sr (some (.int (nI 1))) W ∧ ∀ e, e < 2 ^ 20 → XR P T gT Q β' F D' z nn g0 g1 g3 g4 g5 gn tq ((m, vB x + i + 1, k, 0, vT x + vU x, (st, qt), (0, 0, ([], j + 1))) :: vAt x (vP x) (vQ x) (i + 1, vU x, (l', s)) :: r) (wI 5217 (nI e) S') (wA 98 (r.length + 1) (nI e) W) := by
  have hr30 : r.length ≤ 30 := h.2.2.2.2.2.2.1.2.2.2
  obtain ⟨l1, l2, l3, l4, l5⟩ := CI_len h
  have hT := CI_T h
  obtain ⟨_, f, m, j, a, h9, ⟨hF, hm⟩, h7, hft⟩ := (h.2.2.2.1 fn hfn).1.2.1 k3
  obtain ⟨np, nl, st, qt, ⟨h28, h29, h27⟩, ⟨hpl, hnl, hst, hqt⟩, hloc, hGn, hw1, hrf⟩ := hfk f m j hF hm
  obtain ⟨hf, hj⟩ := hFO.1 f m j hF hm
  have hya : a = 0 ∨ lv S a := by
    by_cases c : par m (j + 1) = 0
    · exact Or.inl (hft.1 c)
    · exact Or.inr (hft.2 c).1
  have ha2 : a ≤ 1500 := by
    rcases hya with c | c
    · omega
    · exact c.2.1
  have hse' : se = 0 ∨ lv S se := by
    rcases hse with c | c
    · exact Or.inl c
    · exact Or.inr c.1
  have hb : ∀ w, w = a ∨ w = se → w ≠ 0 → lv S w := fun w hw h0 => by
    rcases hw with c | c
    · rw [c] at h0 ⊢
      exact hya.resolve_left h0
    · rw [c] at h0 ⊢
      exact hse'.resolve_left h0
  have hg0 : (fun q => gC (x :: r) q + dl 0 q) = gC (x :: r) := funext fun q => by rw [dl_0]; rfl
  have hc : CIg 0 (fun q => gC (x :: r) q + dl 0 q) F loc par ty G tq (x :: r) S := by rw [hg0]; exact h
  have ref : ∀ {P T gT Q β D z nn g0 g1 g3 g4 g5 gn Sr}, St P T → XR P T gT Q β F D z nn g0 g1 g3 g4 g5 gn tq (x :: r) S Sr → _ := fun {P T gT Q β D z nn g0 g1 g3 g4 g5 gn Sr} hS hX => bgn_R (d := d) (mk := 0) (ba := vB x + i + offC (x :: r)) (gv := gv) (se := se) h hX hfn k3 hFO hF hm h9 h7 ha2 hb (hrf P T hS).1 (hrf P T hS).2.1 (hrf P T hS).2.2 (by omega) hnl hqt hpl (by omega) (by omega) (by omega)
  rcases enter_C (d := d) (md := 0) (gv := gv) (se := se) hc hx hi hfn h9 hf h28 h29 h27 (by omega) hnl hst h7 hft hloc hpl hse' (Or.inl rfl) hG hkc hka h5 hp hln with ⟨e, he, hA⟩ | ⟨e1, e2, e3, e4, k, S', hA, hO⟩
  · refine Or.inl ⟨e, by omega, hA, fun P T gT Q β D z nn g0 g1 g3 g4 g5 gn Sr hS hX => ?_⟩
    obtain ⟨⟨r1, r2, r3, r4⟩, r5⟩ := ref hS hX
    have hl := CI_lob h
    rcases he with ⟨c, c1⟩ | ⟨c, c1, c2⟩ | ⟨c, c1, c2, c3⟩
    · rw [c]
      exact ⟨D, _, r1 c1, rIe _ _ _, XRe_I (XR_XRe hX hl) (Or.inl rfl)⟩
    · rw [c]
      exact ⟨D, _, r2 c1 c2, rIe _ _ _, XRe_I (XR_XRe hX hl) (Or.inl rfl)⟩
    · rcases c3 with c3 | ⟨c3, c4⟩
      · rw [c]
        exact ⟨D, _, r3 c1 c2 c3, rIe _ _ _, XRe_I (XR_XRe hX hl) (Or.inl rfl)⟩
      · obtain ⟨S1, D', b1, b2⟩ := r4 c1 c2 c3 c4
        rw [c]
        exact ⟨D', _, b1, rIe _ _ _, XRe_I (XR_XRe b2 hl) (Or.inl rfl)⟩
  · obtain ⟨⟨ty', hCI⟩, o2, o3, o4, o5, o6, o7, o8, o9, o10, o11, o12⟩ := hO qt
    refine Or.inr ⟨k, m, j, st, qt, S', ty', hA, hCI, hGn, hw1, o11, o12, o8, fun P T gT Q β D z nn g0 g1 g3 g4 g5 gn Sr hS hX => ?_⟩
    obtain ⟨⟨r1, r2, r3, r4⟩, r5⟩ := ref hS hX
    obtain ⟨r0, t', S1, D', W2, c1, c2, c3, c4, c5, c6, c7, c8, c9⟩ := r5 e1 e2 e3 e4
    obtain ⟨β', hβ'⟩ : ∃ β' : Nat → Nat, β' = fun q => if q = k then r0 else β q := ⟨_, rfl⟩
    have hbk : β' k = r0 := by rw [hβ']; exact if_pos rfl
    have hbn : ∀ q, q ≠ k → β' q = β q := fun q hq => by rw [hβ']; exact if_neg hq
    have hbl : ∀ q, lv S q → β' q = β q := fun q hq => hbn q (fun c => o2.2.2 (c ▸ hq))
    have es : topC (x :: r) + offC (x :: r) - gv = vB x + i + 1 + offC (x :: r) := by omega
    rw [es] at c8 c9
    have hob : obR β' F S' W2 g0 g1 nn k := by
      refine obR_frm (β := β) o5.1 o5.2.1 o5.2.2 o6.1 c8 hbk c1 c7 (fun e he => ?_) ?_ (fun h0 => hbl a (hya.resolve_left h0))
      · obtain ⟨d1, d2⟩ := o6.2 e he
        rw [d1, d2]
        refine vr_frm rfl (fun h0 => ?_) (fun n hn => ?_) e
        · have := hse'.resolve_left h0
          exact ⟨this.1, this.2.1, hbl se this⟩
        · have hv := c4.2.2.2.1.1 (i + 1 + n) (by omega)
          have ea : vB x + (i + 1 + n) = vB x + i + 1 + n := by omega
          have eb : vB x + i + 1 + n + offC (x :: r) = vB x + i + 1 + offC (x :: r) + n := by omega
          rw [ea, eb] at hv
          refine vrel_b hv (fun h0 => ?_)
          obtain ⟨o, p1, p2, p3⟩ := h.1.2.2.2.2.1 (vB x + i + 1 + n) (by omega)
          have : ob (sL S 47 (vB x + i + 1 + n)) (sL S 48 (vB x + i + 1 + n)) = o := by unfold ob; rw [p2, gN_nI (by omega)]
          rw [this] at h0 ⊢
          exact hbl o (p3.resolve_left h0)
      · rcases hya with c | c
        · exact Or.inl c
        · exact Or.inr ⟨c.1, c.2.1⟩
    have eL : ∀ b, b < 108 → sL S' b = sL S b := o7
    refine ⟨β', D', _, c9, fun e he => ?_⟩
    exact XR_ent (md := 0) (e := e) (W := W2) h c4 hx (by show i + 1 + 0 ≤ vH x; omega) (fun c => absurd rfl c) o2 o3 o4 (fun p hp => ⟨by rw [eL 47 (by omega)], by rw [eL 48 (by omega)]⟩) (fun b hb => eL b (by simp only [List.mem_cons, List.not_mem_nil, or_false] at hb; omega)) o8 o9 o10 (mHS_cl hCI.1) (mHS_ok hCI.1 k o2.1 o2.2.1) c1 c2 c3 c5 c6 c7 hbk hbn hob hqt he rfl
end
