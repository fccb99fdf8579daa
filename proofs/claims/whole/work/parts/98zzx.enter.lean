/-! A FUNCTION of the class: its scope is entered, and left -/
theorem lsI_no {f : Nat → Nat} {s : Nat} : ∀ m, (∀ e, e < m → f e ≠ s) → lsI f s m = Int32.ofInt (-1) := by
  intro m
  induction m with
  | zero => intro _; rfl
  | succ m ih =>
    intro h
    show (if f m = s then nI m else lsI f s m) = _
    rw [if_neg (h m (by omega))]
    exact ih (fun e he => h e (by omega))
theorem npS_no {l : List (Nat × Nat × Nat)} {i : Nat} (h : ∀ e, e < l.length → sF l e ≠ i) : npS l i = 0 := by
  unfold npS
  have : l.filter (fun x => Nat.beq x.1 i && Nat.beq x.2.2 1) = [] := by
    rw [List.filter_eq_nil_iff]
    intro x hx hc
    obtain ⟨e, he, rfl⟩ := List.mem_iff_getElem.mp hx
    refine h e he ?_
    have h1 := (Bool.and_eq_true_iff.mp hc).1
    unfold sF
    rw [List.getD_eq_getElem?_getD, List.getElem?_eq_getElem he]
    exact Nat.eq_of_beq_eq_true h1
  rw [this]
  rfl
def enI : List Nat := [2309, 3211, 3212]
def enA : List Nat := [27, 28, 29, 30, 33, 34, 35]
section
variable {A : Nat → Int32} {n z0 fb a0 s ab d : Nat} {S0 : cS}
/-- what addFunction and enter do -/
theorem en_ev {a cur fn sn : Nat} {x : Int32} {S : cS} (h7 : sI S 2307 = nI a) (h9 : sI S 2309 = nI fn) (hfn : fn < 900) (h11 : sI S 3211 = nI cur) (h12 : sI S 3212 = nI sn) (hsn : sn < 300) : ∃ S1 T, Ans (d + 1) 98 [.ref 23, .int x] S (some (.int (nI fn))) S1 ∧ Ans (d + 1) 99 [.ref 32, .int (nI fn)] S1 (some (.int (nI cur))) T ∧ FrT enI [] enA [] S T ∧ sI T 2309 = nI (fn + 1) ∧ sI T 3211 = nI sn ∧ sI T 3212 = nI (sn + 1) ∧ sA T 27 = upd (sA S 27) fn (nI a) ∧ sA T 28 = upd (sA S 28) fn (nI 0) ∧ sA T 29 = upd (sA S 29) fn (nI 0) ∧ sA T 30 = upd (sA S 30) fn x ∧ sA T 33 = upd (sA S 33) sn (nI cur) ∧ sA T 34 = upd (sA S 34) sn (nI fn) ∧ sA T 35 = upd (sA S 35) sn (Int32.ofInt (-1)) := by
  have hF1 : FrT enI [] enA [] S (wI 2309 (nI (fn + 1)) (wA 29 fn (nI 0) (wA 28 fn (nI 0) (wA 27 fn (nI a) (wA 30 fn x S))))) := FrT_wI (by decide) (FrT_wA (by decide) (FrT_wA (by decide) (FrT_wA (by decide) (FrT_wA (by decide) (FrT.refl _ _ _ _ _)))))
  have key : ∀ S1 : cS, FrT enI [] enA [] S S1 → sI S1 2309 = nI (fn + 1) → sI S1 3211 = nI cur → sI S1 3212 = nI sn → sA S1 27 = upd (sA S 27) fn (nI a) → sA S1 28 = upd (sA S 28) fn (nI 0) → sA S1 29 = upd (sA S 29) fn (nI 0) → sA S1 30 = upd (sA S 30) fn x → (∀ y, y ∈ [33, 34, 35] → sA S1 y = sA S y) → ∃ T, Ans (d + 1) 99 [.ref 32, .int (nI fn)] S1 (some (.int (nI cur))) T ∧ FrT enI [] enA [] S T ∧ sI T 2309 = nI (fn + 1) ∧ sI T 3211 = nI sn ∧ sI T 3212 = nI (sn + 1) ∧ sA T 27 = upd (sA S 27) fn (nI a) ∧ sA T 28 = upd (sA S 28) fn (nI 0) ∧ sA T 29 = upd (sA S 29) fn (nI 0) ∧ sA T 30 = upd (sA S 30) fn x ∧ sA T 33 = upd (sA S 33) sn (nI cur) ∧ sA T 34 = upd (sA S 34) sn (nI fn) ∧ sA T 35 = upd (sA S 35) sn (Int32.ofInt (-1)) := fun S1 f1 f2 f3 f4 f5 f6 f7 f8 f9 => by
    refine ⟨_, enter_ev (d := d) f3 f4 hsn, FrT_wA (by decide) (FrT_wA (by decide) (FrT_wA (by decide) (FrT_wI (by decide) (FrT_wI (by decide) f1)))), ?_, ?_, ?_, ?_, ?_, ?_, ?_, ?_, ?_, ?_⟩
    · simp only [rI, rAI, reduceIte, Nat.reduceEqDiff, f2]
    · simp only [rI, rAI, reduceIte, Nat.reduceEqDiff]
    · simp only [rI, rAI, reduceIte, Nat.reduceEqDiff]
    · rw [rAn _ _ _ (by decide), rAn _ _ _ (by decide), rAn _ _ _ (by decide), rIA, rIA]; exact f5
    · rw [rAn _ _ _ (by decide), rAn _ _ _ (by decide), rAn _ _ _ (by decide), rIA, rIA]; exact f6
    · rw [rAn _ _ _ (by decide), rAn _ _ _ (by decide), rAn _ _ _ (by decide), rIA, rIA]; exact f7
    · rw [rAn _ _ _ (by decide), rAn _ _ _ (by decide), rAn _ _ _ (by decide), rIA, rIA]; exact f8
    · rw [rAn _ _ _ (by decide), rAn _ _ _ (by decide), rAe, rIA, rIA, f9 33 (by decide)]
    · rw [rAn _ _ _ (by decide), rAe, rAn _ _ _ (by decide), rIA, rIA, f9 34 (by decide)]
    · rw [rAe, rAn _ _ _ (by decide), rAn _ _ _ (by decide), rIA, rIA, f9 35 (by decide)]
  obtain ⟨T, k1, k2⟩ := key _ hF1 (rIe _ _ _) (by simp only [rI, rAI, reduceIte, Nat.reduceEqDiff, h11]) (by simp only [rI, rAI, reduceIte, Nat.reduceEqDiff, h12]) (by rw [rIA, rAn _ _ _ (by decide), rAn _ _ _ (by decide), rAe, rAn _ _ _ (by decide)]) (by rw [rIA, rAn _ _ _ (by decide), rAe, rAn _ _ _ (by decide), rAn _ _ _ (by decide)]) (by rw [rIA, rAe, rAn _ _ _ (by decide), rAn _ _ _ (by decide), rAn _ _ _ (by decide)]) (by rw [rIA, rAn _ _ _ (by decide), rAn _ _ _ (by decide), rAn _ _ _ (by decide), rAe]) (fun y hy => by
    have h7 : ∀ y, y ∈ [33, 34, 35] → y ≠ 27 := by decide
    have h8 : ∀ y, y ∈ [33, 34, 35] → y ≠ 28 := by decide
    have h9 : ∀ y, y ∈ [33, 34, 35] → y ≠ 29 := by decide
    have h0 : ∀ y, y ∈ [33, 34, 35] → y ≠ 30 := by decide
    rw [rIA, rAn _ _ _ (h9 y hy), rAn _ _ _ (h8 y hy), rAn _ _ _ (h7 y hy), rAn _ _ _ (h0 y hy)])
  exact ⟨_, T, addFunction_ev (d := d) h7 h9 hfn, k1, k2⟩
theorem fn_T {a c f k kn q cb rb : Nat} {sc : SCs} {at' : List Nat} {S : cS} (h : yG A n S0 z0 fb a0 s ab k sc at' a c f S) (hq : nmR (by1 A) n S kn (nI q)) (hs1 : sc.1.length ≤ 280) (hfn : fb + sc.1.length ≤ 894) (hcb : a = a0 + cb) : ∃ S1 T, Ans (d + 1) 98 [.ref 23, .int (nI q)] S (some (.int (nI (fb + sc.1.length - 1)))) S1 ∧ Ans (d + 1) 99 [.ref 32, .int (nI (fb + sc.1.length - 1))] S1 (some (.int (nI s))) T ∧ FrT enI [] enA [] S T ∧ (∀ y, y ∈ [27, 28, 29, 30] → ∀ i, i < fb → sA T y i = sA S y i) ∧ nK S T ∧ yG A n S0 z0 fb a0 sc.1.length ab k (sc.1 ++ [(s, cb, rb, kn)], sc.2) at' a c f T := by
  obtain ⟨g1, g2, g3, g4, g5, g6, g7, g8, g9, g10, g11, g12, ⟨tr, lt, g13, g13b, g13c, g13d⟩, g14, g15, g16, g17, g18, g19⟩ := id h
  obtain ⟨S1, T, p1, p2, hF, t9, t11, t12, t27, t28, t29, t30, t33, t34, t35⟩ := en_ev (d := d) (x := nI q) g2.1 g3 (by omega) g2.2.2.2.1 g4 (by omega)
  have hL : ∀ x, sL T x = sL S x := fun x => hF.2.2.2.1 x (fun h => by cases h)
  have hnK : nK S T := cP_nK g1 (hF.1 _ (by decide)) (fun a _ => hL a)
  have hA : ∀ x, x ∉ enA → sA T x = sA S x := hF.2.2.1
  have e1 : ∀ i, i ∈ [3102, 3103, 3104, 3105, 3106, 3107, 3108, 3109, 3113, 1607] → i ∉ enI := by decide
  have e2 : ∀ a, a ∈ [1, 19, 20] → a ∉ enA := by decide
  have hln : (sc.1 ++ [(s, cb, rb, kn)]).length = sc.1.length + 1 := by rw [List.length_append]; rfl
  have hno : ∀ e, e < sc.2.length → sF sc.2 e ≠ sc.1.length := fun e he => by have := (g8.1 e he).2; omega
  refine ⟨S1, T, p1, p2, hF, fun y hy i hi => ?_, hnK, cP_S g1 (fun i hi => hF.1 i (e1 i hi)) (fun i _ => hF.2.1 i (fun h => by cases h)) (fun a ha => hA a (e2 a ha)) (fun a _ => hL a), ⟨(hF.1 _ (by decide)).trans g2.1, (hF.1 _ (by decide)).trans g2.2.1, (hF.1 _ (by decide)).trans g2.2.2.1, t11, by omega⟩, ?_, ?_, (hF.1 _ (by decide)).trans g5, ⟨fun i i1 i2 => ?_, fun e he => ?_⟩, fun i i1 i2 => ?_, ⟨fun e he => ?_, g8.2.1, fun i i1 i2 => ?_, g8.2.2.2⟩, ?_, yAt_S g10 hnK (hF.1 _ (by decide)) (hA 45 (by decide)), (hF.1 _ (by decide)).trans g11, fun i hi => by rw [hA 41 (by decide)]; exact g12 i hi, ⟨tr, lt, (hF.1 _ (by decide)).trans g13, (hF.1 _ (by decide)).trans g13b, g13c, g13d⟩, g14, g15, g16, g17, ?_, ?_⟩
  · simp only [List.mem_cons, List.not_mem_nil, or_false] at hy
    rcases hy with rfl | rfl | rfl | rfl
    · rw [t27, upd_at, if_neg (by omega)]
    · rw [t28, upd_at, if_neg (by omega)]
    · rw [t29, upd_at, if_neg (by omega)]
    · rw [t30, upd_at, if_neg (by omega)]
  · dsimp only
    rw [hln, t9]
    exact congrArg nI (by omega)
  · dsimp only
    rw [hln]
    exact t12
  · dsimp only at i2 ⊢
    rw [hln] at i2
    rw [t33, t34, t35, t27, t29, t30, upd_at, upd_at, upd_at, upd_at, upd_at, upd_at]
    by_cases hi : i = sc.1.length
    · subst hi
      have e : scI (sc.1 ++ [(s, cb, rb, kn)], sc.2) sc.1.length = (s, cb, rb, kn) := getD_new
      rw [e, if_pos rfl, if_pos rfl, if_pos rfl, if_pos rfl, if_pos rfl, if_pos rfl]
      exact ⟨rfl, rfl, (lsI_no _ hno).symm, congrArg nI hcb, rfl, nmR_K hnK hq⟩
    · have e : scI (sc.1 ++ [(s, cb, rb, kn)], sc.2) i = scI sc i := getD_old (by omega)
      rw [e, if_neg hi, if_neg hi, if_neg hi, if_neg (by omega), if_neg (by omega), if_neg (by omega)]
      obtain ⟨u1, u2, u3, u4, u5, u6⟩ := g6.1 i i1 (by omega)
      exact ⟨u1, u2, u3, u4, u5, nmR_K hnK u6⟩
  · dsimp only at he ⊢
    obtain ⟨u1, u2, u3, u4⟩ := g6.2 e he
    rw [hA 36 (by decide), hA 37 (by decide), hA 38 (by decide), hA 40 (by decide)]
    exact ⟨nmR_K hnK u1, u2, u3, u4⟩
  · dsimp only at i2 ⊢
    rw [hln] at i2
    rw [t28, upd_at]
    by_cases hi : i = sc.1.length
    · subst hi
      rw [if_pos rfl, npS_no hno]
    · rw [if_neg (by omega)]
      exact g7 i i1 (by omega)
  · dsimp only at he ⊢
    rw [hln]
    have := g8.1 e he
    exact ⟨this.1, by omega⟩
  · dsimp only at i2 ⊢
    rw [hln] at i2
    by_cases hi : i = sc.1.length
    · subst hi
      have e : scI (sc.1 ++ [(s, cb, rb, kn)], sc.2) sc.1.length = (s, cb, rb, kn) := getD_new
      rw [e]
      exact g9
    · have e : scI (sc.1 ++ [(s, cb, rb, kn)], sc.2) i = scI sc i := getD_old (by omega)
      rw [e]
      exact g8.2.2.1 i i1 (by omega)
  · dsimp only
    rw [hln]
    omega
  · dsimp only
    rw [hln]
    omega
  · dsimp only
    rw [hln]
    omega
/-- frames of a function's text, seen from outside -/
theorem en_F {a c f s1 : Nat} {B T S : cS} (h : yF fb a c f ab T S) (hT : FrT enI [] enA [] B T) (hTb : ∀ y, y ∈ [27, 28, 29, 30] → ∀ i, i < fb → sA T y i = sA B y i) (hs : sI B 3211 = nI s1) (hnK : nK B T) : yF fb a c f ab B (wI 3211 (nI s1) S) := by
  obtain ⟨f1, f2, f3, f4, f5, f6, f7, f8⟩ := h.1
  obtain ⟨⟨q1, q2, q3⟩, q4, q5⟩ := h.2.1
  have hA : ∀ x, x ∉ enA → sA T x = sA B x := hT.2.2.1
  have hL : ∀ x, sL T x = sL B x := fun x => hT.2.2.2.1 x (fun h => by cases h)
  refine ⟨⟨fun i hi => ?_, fun i hi => (f2 i hi).trans (hT.2.1 i (fun h => by cases h)), fun x hx => (f3 x hx).trans (hA x (fun hc => hx ?_)), fun x hx => (f4 x hx).trans (hL x), f5.trans hT.2.2.2.2.1, f6.trans hT.2.2.2.2.2.1, f7.trans hT.2.2.2.2.2.2.1, f8.trans hT.2.2.2.2.2.2.2⟩, ⟨⟨fun i hi => ?_, fun i hi => ?_, fun i hi => ?_⟩, fun i hi => ?_, fun i hi => ?_⟩, ?_⟩
  · by_cases h11 : i = 3211
    · subst h11
      exact (rIe _ _ _).trans hs.symm
    · refine (rIn _ _ h11).trans ((f1 i hi).trans (hT.1 i (fun hc => ?_)))
      unfold enI at hc
      simp only [List.mem_cons, List.not_mem_nil, or_false] at hc
      rcases hc with rfl | rfl | rfl
      · exact hi (by decide)
      · exact h11 rfl
      · exact hi (by decide)
  · have : ∀ x, x ∈ enA → x ∈ yA := by decide
    exact this x hc
  · exact (q1 i hi).trans (by rw [hA 24 (by decide)])
  · exact ⟨(q2 i hi).1.trans (by rw [hL]), (q2 i hi).2.trans (by rw [hL])⟩
  · exact ⟨(q3 i hi).1.trans (by rw [hA 41 (by decide)]), (q3 i hi).2.trans (by rw [hA 42 (by decide)])⟩
  · exact (q4 i hi).trans (by rw [hA 45 (by decide)])
  · exact ⟨(q5 i hi).1.trans (hTb 27 (by decide) i hi), (q5 i hi).2.1.trans (hTb 28 (by decide) i hi), (q5 i hi).2.2.1.trans (hTb 29 (by decide) i hi), (q5 i hi).2.2.2.trans (hTb 30 (by decide) i hi)⟩
  · exact nK_S (nK_trans hnK h.2.2) rfl (rIn _ _ (by decide)) (fun _ _ => rfl) (fun _ _ => rfl)
/-- a function's text, seen from outside -/
theorem fn_L {a c f s' : Nat} {x : PT} {B T S : cS} (h : yOK A n S0 z0 fb a0 s' ab T a c f x S) (hT : FrT enI [] enA [] B T) (hTb : ∀ y, y ∈ [27, 28, 29, 30] → ∀ i, i < fb → sA T y i = sA B y i) (hs : sI B 3211 = nI s) (hnK : nK B T) (hs3 : s < 300) (hsl : s < x.2.2.1.1.length) : yOK A n S0 z0 fb a0 s ab B a c f x (wI 3211 (nI s) S) := by
  obtain ⟨⟨g1, g2, g3, g4, g5, g6, g7, g8, g9, g10, g11, g12, ⟨tr, lt, g13, g13b, g13c, g13d⟩, g14, g15, g16, g17, g18, g19⟩, h2, h3, h4, h5, h6⟩ := h
  have hF : FrT [3211] [] [] [] S (wI 3211 (nI s) S) := FrT_wI (by decide) (FrT.refl _ _ _ _ _)
  have hnK2 : nK S (wI 3211 (nI s) S) := cP_nK g1 (hF.1 _ (by decide)) (fun _ _ => rfl)
  have e1 : ∀ i, i ∈ [3102, 3103, 3104, 3105, 3106, 3107, 3108, 3109, 3113, 1607] → i ∉ [3211] := by decide
  refine ⟨⟨cP_S g1 (fun i hi => hF.1 i (e1 i hi)) (fun _ _ => rfl) (fun _ _ => rfl) (fun _ _ => rfl), ⟨(hF.1 _ (by decide)).trans g2.1, (hF.1 _ (by decide)).trans g2.2.1, (hF.1 _ (by decide)).trans g2.2.2.1, rIe _ _ _, hs3⟩, (hF.1 _ (by decide)).trans g3, (hF.1 _ (by decide)).trans g4, (hF.1 _ (by decide)).trans g5, yS_S g6 hnK2 (fun _ _ => rfl), g7, g8, hsl, yAt_S g10 hnK2 (hF.1 _ (by decide)) rfl, (hF.1 _ (by decide)).trans g11, g12, ⟨tr, lt, (hF.1 _ (by decide)).trans g13, (hF.1 _ (by decide)).trans g13b, g13c, g13d⟩, g14, g15, g16, g17, g18, g19⟩, ?_, fxS_mono (S := S) (S1 := wI 3211 (nI s) S) (hi := f + fxM x.2.1) _ _ _ (fun i _ => ⟨rfl, rfl⟩) (Nat.le_refl _) h3, en_F h4 hT hTb hs hnK, ?_, h6⟩
  · obtain ⟨z, c', i1, i2, i3, i4, i5⟩ := h2
    exact ⟨z, c', (hF.1 _ (by decide)).trans i1, i2, (hF.1 _ (by decide)).trans i3, i4, lsC_mono (S := S) x.2.1 a (hi := a + wC x.2.1) ⟨Nat.le_refl _, Nat.le_refl _, fun i _ _ => rfl, fun i _ => ⟨rfl, rfl⟩, fun i _ => ⟨rfl, rfl⟩⟩ (Nat.le_refl _) i5⟩
  · rw [← hT.1 4310 (by decide)]
    have : sI (wI 3211 (nI s) S) 4310 = sI S 4310 := rIn _ _ (by decide)
    rw [this]
    exact chL_S (S := S) _ _ (fun p _ => rfl) h5
/-- the step that makes a function -/
theorem yE_F {a c f k m : Nat} {sc : SCs} {at' : List Nat} {S : cS} (h : yG A n S0 z0 fb a0 s ab k sc at' a c f S) (ha : a + 2 ≤ 40960) : ∃ S1, Ans (d + 2) 54 [.ref 23, .int (nI 22), .int (nI (fb + m))] S (some (.int (nI a))) S1 ∧ yOK A n S0 z0 fb a0 s ab S a c f (k, [(22, [m], 0, 0)], sc, at') S1 := by
  have hF : FrT [2307] [] [24] [] S (wI 2307 (nI (a + 2)) (wA 24 (a + 1) (nI (fb + m)) (wA 24 a (nI 22) S))) := FrT_wI (by decide) (FrT_wA (by decide) (FrT_wA (by decide) (FrT.refl _ _ _ _ _)))
  have hc := h.2.2.2.2.2.2.2.2.2.2.2.2.2.1
  have hf := h.2.2.2.2.2.2.2.2.2.2.2.2.2.2.2.1
  refine ⟨_, put2_ev (d := d) h.2.1.1 ha, yOK_e (o := (22, [m], 0, 0)) h (by dsimp only; omega) (hF.1 _ (by decide)) (hF.mono (by decide) (fun _ h => h) (by decide) (fun _ h => by cases h)) ⟨fun i hi => ?_, fun _ _ => ⟨rfl, rfl⟩, fun _ _ => ⟨rfl, rfl⟩⟩ (rIe _ _ _) ((hF.1 _ (by decide)).trans h.2.1.2.1) ((hF.1 _ (by decide)).trans h.2.1.2.2.1) hc ha hf (fun h => by cases h) (fun z _ _ => ⟨fun _ => ?_, fun h => ?_, fun h => ?_, fun h => ?_, fun h => ?_, fun h => ?_, fun _ => ?_, fun h => ?_⟩)⟩
  · show upd (upd (sA S 24) a _) (a + 1) _ i = _
    rw [upd_at, upd_at, if_neg (by omega), if_neg (by omega)]
  · show upd (upd (sA S 24) a _) (a + 1) _ a = _
    rw [upd_at, upd_at, if_neg (by omega), if_pos rfl]
    rfl
  · exfalso; dsimp only at h; omega
  · exfalso; dsimp only at h; omega
  · exfalso; dsimp only at h; omega
  · exfalso; dsimp only at h; omega
  · exfalso; dsimp only at h; omega
  · show upd (upd (sA S 24) a _) (a + 1) _ (a + 1) = _
    rw [upd_at, if_pos rfl]
    rfl
  · exfalso; dsimp only at h; omega
end
section
variable {A : Nat → Int32} {n z0 fb l a c f ab lo : Nat} {S0 B : cS} {H : List Nat} {qa qc qf qe qs qn d : Nat}
/-- a fault in a function's text, seen from outside -/
theorem fnB_L {T S : cS} {s1 s2 : Nat} (h : yB A n S0 z0 fb l a c f ab lo H qa qc qf qe qs qn T S) (hT : FrT enI [] enA [] B T) (hTb : ∀ y, y ∈ [27, 28, 29, 30] → ∀ i, i < fb → sA T y i = sA B y i) (hs : sI B 3211 = nI s1) (hnK : nK B T) (h2 : sI T 3211 = nI s2) (h12 : s1 < s2) (h22 : s2 < 300) : yB A n S0 z0 fb l a c f ab lo H qa qc qf qe qs qn B (wI 3211 (nI s1) S) := by
  obtain ⟨k1, ⟨a', c', f', s, e, sn, fn, av, tv, lv, l', b1, b2, b3, b4, b5, b6, b7, b8, b9, bfl, blo, g⟩, k3, ⟨ps, t, p1, p2, p3, p4, p5⟩, k5, ⟨sn2, en2, cur2, w1, w2, w3, w4, w5, w6, w7⟩⟩ := h
  have hF : FrT [3211] [] [] [] S (wI 3211 (nI s1) S) := FrT_wI (by decide) (FrT.refl _ _ _ _ _)
  have e11 : sI S 3211 = nI s2 := (k3.1.1 3211 (by decide)).trans h2
  have hc2 : cur2 = s2 := nI_inj (by omega) (by omega) (w3.symm.trans e11)
  refine ⟨cB_S k1 (hF.1 _ (by decide)) (hF.1 _ (by decide)) (hF.1 _ (by decide)) (fun _ _ => rfl) (fun _ _ => rfl), ⟨a', c', f', s1, e, sn, fn, av, tv, lv, l', ⟨(hF.1 _ (by decide)).trans b1.1, (hF.1 _ (by decide)).trans b1.2.1, (hF.1 _ (by decide)).trans b1.2.2.1, rIe _ _ _, by omega⟩, (hF.1 _ (by decide)).trans b2, (hF.1 _ (by decide)).trans b3, (hF.1 _ (by decide)).trans b4, (hF.1 _ (by decide)).trans b5, (hF.1 _ (by decide)).trans b6, (hF.1 _ (by decide)).trans b7, (hF.1 _ (by decide)).trans b8, ?_, (hF.1 _ (by decide)).trans bfl, blo, g⟩, en_F k3 hT hTb hs hnK, ⟨ps, t, (hF.1 _ (by decide)).trans p1, p2, ?_, p4, p5⟩, k5, ⟨sn2, en2, s1, (hF.1 _ (by decide)).trans w1, (hF.1 _ (by decide)).trans w2, rIe _ _ _, by omega, w5, w6, w7⟩⟩
  · rw [hF.1 3108 (by decide)]
    exact b9
  · rw [← hT.1 4310 (by decide)]
    have : sI (wI 3211 (nI s1) S) 4310 = sI S 4310 := rIn _ _ (by decide)
    rw [this]
    exact chL_S (S := S) _ _ (fun p _ => rfl) p3
/-- a function is entered behind a fault -/
theorem fnB_E {S : cS} {b : Int32} (h : yB A n S0 z0 fb l a c f ab lo H qa qc qf qe qs qn B S) (hlo : lo ≤ a + 2) (hqs : qs + 1 ≤ 300) (hqn : qn + 1 ≤ 900) : ∃ nu cur t c' f' S1 T, Ans (d + 1) 98 [.ref 23, .int b] S (some (.int (nI nu))) S1 ∧ Ans (d + 1) 99 [.ref 32, .int (nI nu)] S1 (some (.int (nI cur))) T ∧ nu < 900 ∧ fb ≤ nu ∧ cur < 300 ∧ yB A n S0 z0 fb l t c' f' ab (t + 2) [] qa qc qf qe (qs + 1) (qn + 1) T T ∧ ∀ (S3 : cS) (pa pc pf pe ps' pn : Nat), yB A n S0 z0 fb l t c' f' ab (t + 2) [] pa pc pf pe ps' pn T S3 → yB A n S0 z0 fb l a c f ab lo H pa pc pf pe ps' pn B (wI 3211 (nI cur) S3) := by
  obtain ⟨t, c', f', s, e, sn, fn, av, tv, lv, l', h1, h2, h3, h4, h5, h6, h7', h8, h9, hfl, hlo', g1, g2, g3, g4, g5, g6, g7, g8, g9, g10⟩ := yB_top h
  obtain ⟨k1, ps, k3, k4, k5⟩ := yK_t h.2.2.2.1 h1.1 (by omega)
  obtain ⟨sn2, en2, cur2, w1, w2, w3, w4, w5, w6, w7, w8⟩ := id h.2.2.2.2.2
  obtain rfl : sn2 = sn := nI_inj (by omega) (by omega) (w1.symm.trans h3)
  obtain rfl : en2 = e := nI_inj (by omega) (by omega) (w2.symm.trans h2)
  have hs3 := h1.2.2.2.2
  obtain rfl : cur2 = s := nI_inj (by omega) (by omega) (w3.symm.trans h1.2.2.2.1)
  obtain ⟨S1, T, p1, p2, hF, t9, t11, t12, t27, t28, t29, t30, t33, t34, t35⟩ := en_ev (d := d) (x := b) h1.1 h4 (by omega) h1.2.2.2.1 h3 (by omega)
  have hL : ∀ x, sL T x = sL S x := fun x => hF.2.2.2.1 x (fun h => by cases h)
  have hA : ∀ x, x ∉ enA → sA T x = sA S x := hF.2.2.1
  have hnK : nK S T := cB_nK h.1 (hF.1 _ (by decide)) (fun x _ => hL x)
  have hTb : ∀ y, y ∈ [27, 28, 29, 30] → ∀ i, i < fb → sA T y i = sA S y i := fun y hy i hi => by
    simp only [List.mem_cons, List.not_mem_nil, or_false] at hy
    rcases hy with rfl | rfl | rfl | rfl
    · rw [t27, upd_at, if_neg (by omega)]
    · rw [t28, upd_at, if_neg (by omega)]
    · rw [t29, upd_at, if_neg (by omega)]
    · rw [t30, upd_at, if_neg (by omega)]
  have e2 : ∀ a, a ∈ [1, 19, 20] → a ∉ enA := by decide
  have gT : cB A n S0 z0 l T := cB_S h.1 (hF.1 _ (by decide)) (hF.1 _ (by decide)) (hF.1 _ (by decide)) (fun x hx => hA x (e2 x hx)) (fun x _ => hL x)
  refine ⟨fn, cur2, t, c', f', S1, T, p1, p2, by omega, by omega, by omega, ⟨gT, ⟨t, c', f', sn2, en2, sn2 + 1, fn + 1, av, tv, lv, l', ⟨(hF.1 _ (by decide)).trans h1.1, (hF.1 _ (by decide)).trans h1.2.1, (hF.1 _ (by decide)).trans h1.2.2.1, t11, by omega⟩, (hF.1 _ (by decide)).trans h2, t12, t9, (hF.1 _ (by decide)).trans h5, (hF.1 _ (by decide)).trans h6, (hF.1 _ (by decide)).trans h7', (hF.1 _ (by decide)).trans h8, by rw [hF.1 3108 (by decide)]; exact h9, (hF.1 _ (by decide)).trans hfl, by omega, g1, g2, g3, g4, by omega, by omega, g7, g8, g9, g10⟩, ⟨FrT.refl _ _ _ _ _, kQ_eq (fun _ _ => rfl) (fun _ _ => rfl), cB_nK gT rfl (fun _ _ => rfl)⟩, ⟨[], t, (hF.1 _ (by decide)).trans h1.1, k1, rfl, trivial, fun x hx => by cases hx⟩, by omega, ⟨sn2 + 1, en2, sn2, t12, (hF.1 _ (by decide)).trans w2, t11, by omega, by omega, w6, fun i i1 i2 => ?_, fun e he => ?_⟩⟩, fun S3 pa pc pf pe ps' pn g => ?_⟩
  · rw [t35, upd_at]
    by_cases hi : i = sn2
    · rw [if_pos hi]; exact Or.inl rfl
    · rw [if_neg hi]; exact w7 i i1 (by omega)
  · rw [hA 40 (by decide)]
    exact w8 e he
  · have q1 := fnB_L (s1 := cur2) g hF hTb w3 hnK t11 w4 (by omega)
    exact yB_base (lo := lo) (qs := ps) (a2 := t) (c2 := c') (f2 := f') (H2 := []) h.2.2.1 k3 k4 (fun p hp => Or.inl (k5 p hp)) (by omega) (by omega) (by omega) (by omega) h.2.2.2.2.1 (by omega) q1
end
