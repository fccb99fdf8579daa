/-! ONE STEP OF BOTH, with what catches errors -/
/-- they go on, or end with an error -/
def nxt (ok : List Lv → Prop) (St : (Nat → Prop) → cS → Prop) (F : Nat → Nat → Nat → Prop) (loc par : Nat → Nat → Nat) (G : Nat → Nat → Nat → Nat × Nat × LL → Prop) (w : Nat → Int32) (pT d : Nat) (S : cS) (CF : cS → Prop) (R : (Nat → Prop) → cS → (Nat → Nat) → Nat → cS → Prop) : Prop :=
  (∃ (ty' : Nat → Nat × Nat) (tq' : Nat → Nat × Nat) (C' : List Lv) (S' : cS), ok C' ∧ tnC d S S' ∧ CI F loc par ty' G tq' C' S' ∧ (sI S' 5216 = nI (hP C') ∧ PC w pT S' ∧ clk S' ∧ CF S') ∧ ∀ P T β gT Sr, St P T → R P T β gT Sr → ∃ Q' β' D' z nn' h0 h1 h3 h4 h5 hn W, rGo (d + 1) Sr W ∧ XRl P T gT Q' β' F D' z nn' h0 h1 h3 h4 h5 hn tq' w C' S' W) ∨ ∃ (e : Nat) (ty' : Nat → Nat × Nat) (tq' : Nat → Nat × Nat) (x' : Lv) (r' : List Lv) (S' : cS), (1 ≤ e ∧ e ≤ 100) ∧ (∀ {tn : Nat} {v : Option Value} {Sf : cS}, tn < 1000000000 → (∀ lv1, sm_get lv1 0 = some (.ref 52) → sm_get lv1 3 = some (.int (nI e)) → sm_get lv1 4 = some (.int (nI 0)) → sm_get lv1 5 = some (.int (nI (tn + 1))) → Bod d 126 28 lv1 [] S' v Sf) → ∀ lv ex, sm_get lv 0 = some (.ref 52) → sm_get lv 3 = some (.int ex) → sm_get lv 4 = some (.int (nI 1)) → sm_get lv 5 = some (.int (nI tn)) → Bod d 126 28 lv [] S v Sf) ∧ CI F loc par ty' G tq' (x' :: r') S' ∧ (PC w pT S' ∧ clk S') ∧ (e = 100 ∨ vT x' + vU x' = 0) ∧ ∀ P T β gT Sr, St P T → R P T β gT Sr → ∃ Q' β' D' z nn' h0 h1 h3 h4 h5 hn W, (∃ n, rRn (d + 1) n Sr 0 W) ∧ sI W 6164 = nI e ∧ XRe P T gT Q' β' F D' z nn' h0 h1 h3 h4 h5 hn tq' x' r' S' W
section
variable {P : Nat → Prop} {T : cS} {gT : Nat} {Q : Nat → Prop} {β β' : Nat → Nat} {F : Nat → Nat → Nat → Prop} {loc par : Nat → Nat → Nat} {ty : Nat → Nat × Nat} {G : Nat → Nat → Nat → Nat × Nat × LL → Prop} {D D' K : List Nat} {z nn g0 g1 g3 g4 g5 gn d n m p q pT k e er : Nat} {tq : Nat → Nat × Nat} {C r r0 : List Lv} {x x0 : Lv} {S S' S1 X W Sc Sr : cS} {w : Nat → Int32} {St : (Nat → Prop) → cS → Prop} {CF : cS → Prop} {ok : List Lv → Prop}
/-- an error of both: caught, or the end -/
theorem err_nxt {R : (Nat → Prop) → cS → (Nat → Nat) → Nat → cS → Prop} (he : 1 ≤ e ∧ e ≤ 100) (ht : tnE' (d + 21) S S' e) (h : CI F loc par ty G tq (x0 :: r0) S') (hpc : PC w pT S') (hck : clk S') (hCF : ∀ S2 K, KXr K S' S2 → CF S2) (hcat : catOK St G) (hok : ∀ L x r e0 y l' q, x0 :: r0 = L ++ x :: r → (vL x).1 = e0 ++ (y, 0) :: l' → q = (tq (vT x + tms l')).2 → G (vM x) (tq (vT x + tms l')).1 (q + 1) (y + 1, tms l', (l', (vL x).2)) → ok (vAt x (tq (vT x + tms l')).1 (q + 1) (y + 1, tms l', (l', (vL x).2)) :: r)) (hR : ∀ P T β gT Sr, St P T → R P T β gT Sr → ∃ Q' β' D' z nn' h0 h1 h3 h4 h5 hn W, (∃ n, rRn (d + 22) n Sr 0 W) ∧ sI W 6164 = nI e ∧ XRe P T gT Q' β' F D' z nn' h0 h1 h3 h4 h5 hn tq x0 r0 S' W) (hex : ∃ P T β gT Sr, St P T ∧ R P T β gT Sr) : nxt ok St F loc par G w pT (d + 21) S CF R := by
  have m266 := ml_266
  have go0 : ∀ {b : Int32}, Bod (d + 20) 266 0 [(0, .ref 52), (1, .int (nI e))] [] S' (some (.int b)) S' → Ans (d + 21) 266 [.ref 52, .int (nI e)] S' (some (.int b)) S' := fun hb => Ans.of (by rw [m266]; exact Nat.le_of_ble_eq_true rfl) (Bod.lv (by rfl) hb)
  have fin : (e = 100 ∨ vT x0 + vU x0 = 0) → Ans (d + 21) 266 [.ref 52, .int (nI e)] S' (some (.int (nI 0))) S' → nxt ok St F loc par G w pT (d + 21) S CF R := fun h0 hA => Or.inr ⟨e, ty, tq, x0, r0, S', he, fun htn hc lv ex q0 q3 q4 q5 => ht htn (Or.inl rfl) hA hc lv ex q0 q3 q4 q5, h, ⟨hpc, hck⟩, h0, hR⟩
  by_cases c : e = 100
  · exact fin (Or.inl c) (go0 (mCg_1 (d := d + 12) (by omega) c))
  · by_cases c2 : vT x0 + vU x0 = 0
    · refine fin (Or.inr c2) (go0 (mCg_2 (d := d + 12) (tr := 0) (by omega) c ?_ (by omega) (by omega)))
      have e14 : sI S' 5214 = nI (vT x0 + vU x0) := h.2.2.2.2.2.2.1.2.1
      rw [e14, c2]
    · have h55 : ∀ i, i + 1 < (x0 :: r0).length → ∃ e, sA S' 55 i = nI e := fun i hi => by
        obtain ⟨P, T, β, gT, Sr, hS, hRR⟩ := hex
        obtain ⟨Q', β', D', z, nn', h0, h1, h3, h4, h5, hn, W, _, _, hX⟩ := hR P T β gT Sr hS hRR
        obtain ⟨ln, _, l2, _⟩ := hX.2.2.2.2.2.2.2.1.1 i (by have : i + 1 < r0.length + 1 := hi; omega)
        exact ⟨ln, l2⟩
      obtain ⟨C', S2, K, hA, hCI, hokC, i16, hK, href⟩ := caught_S (d := d) h h55 c (by omega) (by omega) hcat hok
      refine Or.inl ⟨ty, tq, C', S2, hokC, fun htn hc lv ex q0 q3 q4 q5 => ht htn (Or.inr rfl) (hA.up (by omega)) (fun lv1 p0 p3 p4 p5 => hc lv1 _ p0 p3 p4 p5) lv ex q0 q3 q4 q5, hCI, ⟨i16, PC_rg hpc hK, clk_rg hck hK, hCF S2 K hK⟩, fun P T β gT Sr hS hRR => ?_⟩
      obtain ⟨Q', β', D', z, nn', h0, h1, h3, h4, h5, hn, W, ⟨n, hrn⟩, w64, hX⟩ := hR P T β gT Sr hS hRR
      obtain ⟨D2, W2, hgo, hX2⟩ := href P T gT Q' β' D' z nn' h0 h1 h3 h4 h5 hn W hS hX w64 n Sr hrn
      exact ⟨Q', β', D2, z, nn', h0, h1, h3, h4, h5, hn, W2, hgo, Or.inl hX2⟩
/-- what the two sides are to each other between two steps -/
def RX (F : Nat → Nat → Nat → Prop) (tq : Nat → Nat × Nat) (C : List Lv) (S : cS) (P : Nat → Prop) (T : cS) (β : Nat → Nat) (gT : Nat) (Sr : cS) : Prop := ∃ Q D z nn g0 g1 g3 g4 g5 gn, XR P T gT Q β F D z nn g0 g1 g3 g4 g5 gn tq C S Sr
/-- and behind the beginning of a call -/
def RXn (F : Nat → Nat → Nat → Prop) (tq : Nat → Nat × Nat) (C : List Lv) (S : cS) (P : Nat → Prop) (T : cS) (β : Nat → Nat) (gT : Nat) (Sr : cS) : Prop := ∃ Q D z nn g0 g1 g3 g4 g5 gn, ∀ e, e < 2 ^ 20 → XR P T gT Q β F D z nn g0 g1 g3 g4 g5 gn tq C (wI 5217 (nI e) S) (wA 98 (C.length - 1) (nI e) Sr)
/-- a step that is not counted -/
theorem stpl_nxt (h : stpl St F loc par G tq w pT (d + 21) (x :: r) S ok) (hcat : catOK St G) (hok : ∀ (tq' : Nat → Nat × Nat) (C0 L : List Lv) (x : Lv) (r : List Lv) (e0 : List (Nat × Nat)) (y : Nat) (l' : List (Nat × Nat)) (q : Nat), C0 = L ++ x :: r → (vL x).1 = e0 ++ (y, 0) :: l' → q = (tq' (vT x + tms l')).2 → G (vM x) (tq' (vT x + tms l')).1 (q + 1) (y + 1, tms l', (l', (vL x).2)) → ok (vAt x (tq' (vT x + tms l')).1 (q + 1) (y + 1, tms l', (l', (vL x).2)) :: r)) (hex : ∃ P T β gT Sr, St P T ∧ RX F tq (x :: r) S P T β gT Sr) : nxt ok St F loc par G w pT (d + 21) S (fun S' => CFw S S') (RX F tq (x :: r) S) := by
  rcases h with ⟨ty', tq', C', S', h1, h2, h3, h4, h5⟩ | ⟨e, ty', x', r', S', h1, h2, h3, ⟨h4, h4', h4''⟩, h5⟩
  · refine Or.inl ⟨ty', tq', C', S', h1, h2, h3, h4, fun P T β gT Sr hS hX => ?_⟩
    obtain ⟨Q, D, z, nn, g0, g1, g3, g4, g5, gn, hX⟩ := hX
    obtain ⟨Q', β', D', nn', a0, a1, a3, a4, a5, an, W, b1, b2⟩ := h5 P T gT Q β D z nn g0 g1 g3 g4 g5 gn Sr hS hX
    exact ⟨Q', β', D', z, nn', a0, a1, a3, a4, a5, an, W, rGo_x (d := d + 14) b1, b2⟩
  · refine err_nxt h1 h2 h3 h4 h4' (fun S2 K hK => h4''.trans (KXr_w hK)) hcat (fun L x r e0 y l' q a1 a2 a3 a4 => hok _ _ L x r e0 y l' q a1 a2 a3 a4) (fun P T β gT Sr hS hX => ?_) hex
    obtain ⟨Q, D, z, nn, g0, g1, g3, g4, g5, gn, hX⟩ := hX
    obtain ⟨Q', β', D', nn', a0, a1, a3, a4, a5, an, W, b1, b2, b3⟩ := h5 P T gT Q β D z nn g0 g1 g3 g4 g5 gn Sr hS hX
    exact ⟨Q', β', D', z, nn', a0, a1, a3, a4, a5, an, W, b1, b2, b3⟩
/-- what a counted step leaves alone -/
def CFc (S S' : cS) : Prop := ∃ s, sI S 5218 = nI s ∧ CFw (wI 5218 (nI (s + 1)) S) S'
theorem end_nxt {R : (Nat → Prop) → cS → (Nat → Nat) → Nat → cS → Prop} (ht : tnE' (d + 21) S S' 100) (h : CI F loc par ty G tq (x0 :: r0) S') (hpc : PC w pT S') (hck : clk S') (hR : ∀ P T β gT Sr, St P T → R P T β gT Sr → ∃ Q' β' D' z nn' h0 h1 h3 h4 h5 hn W, (∃ n, rRn (d + 22) n Sr 0 W) ∧ sI W 6164 = nI 100 ∧ XRe P T gT Q' β' F D' z nn' h0 h1 h3 h4 h5 hn tq x0 r0 S' W) : nxt ok St F loc par G w pT (d + 21) S CF R := by
  have m266 := ml_266
  have hA : Ans (d + 21) 266 [.ref 52, .int (nI 100)] S' (some (.int (nI 0))) S' := Ans.of (by rw [m266]; exact Nat.le_of_ble_eq_true rfl) (Bod.lv (by rfl) (mCg_1 (d := d + 12) (er := 100) (by omega) rfl))
  exact Or.inr ⟨100, ty, tq, x0, r0, S', by omega, fun htn hc lv ex q0 q3 q4 q5 => ht htn (Or.inl rfl) hA hc lv ex q0 q3 q4 q5, h, ⟨hpc, hck⟩, Or.inl rfl, hR⟩
/-- a counted step -/
theorem stps_nxt (h : stps St F loc par G tq w pT (d + 21) (x :: r) S ok) : nxt ok St F loc par G w pT (d + 21) S (CFc S) (RX F tq (x :: r) S) := by
  rcases h with ⟨ty', tq', C', S', h1, h2, h3, h4, h5⟩ | ⟨e, ty', x', r', S', h1, h2, h3, ⟨h4, h4', h4''⟩, h5⟩
  · refine Or.inl ⟨ty', tq', C', S', h1, h2, h3, h4, fun P T β gT Sr hS hX => ?_⟩
    obtain ⟨Q, D, z, nn, g0, g1, g3, g4, g5, gn, hX⟩ := hX
    obtain ⟨Q', β', D', nn', a0, a1, a3, a4, a5, an, W, b1, b2⟩ := h5 P T gT Q β D z nn g0 g1 g3 g4 g5 gn Sr hS hX
    exact ⟨Q', β', D', z, nn', a0, a1, a3, a4, a5, an, W, rGo_x (d := d + 14) b1, Or.inl b2⟩
  · subst h1
    refine end_nxt h2 h3 h4 h4' (fun P T β gT Sr hS hX => ?_)
    obtain ⟨Q, D, z, nn, g0, g1, g3, g4, g5, gn, hX⟩ := hX
    obtain ⟨Q', β', D', nn', a0, a1, a3, a4, a5, an, W, b1, b2, b3⟩ := h5 P T gT Q β D z nn g0 g1 g3 g4 g5 gn Sr hS hX
    exact ⟨Q', β', D', z, nn', a0, a1, a3, a4, a5, an, W, b1, b2, b3⟩
/-- the counted step behind the beginning of a call -/
theorem stpn_nxt (h : stpn St F loc par G tq w pT (d + 21) (x :: r) S ok) : nxt ok St F loc par G w pT (d + 21) S (CFc S) (RXn F tq (x :: r) S) := by
  rcases h with ⟨ty', tq', C', S', h1, h2, h3, h4, h5⟩ | ⟨e, ty', x', r', S', h1, h2, h3, ⟨h4, h4', h4''⟩, h5⟩
  · refine Or.inl ⟨ty', tq', C', S', h1, h2, h3, h4, fun P T β gT Sr hS hX => ?_⟩
    obtain ⟨Q, D, z, nn, g0, g1, g3, g4, g5, gn, hX⟩ := hX
    obtain ⟨Q', β', D', nn', a0, a1, a3, a4, a5, an, W, b1, b2⟩ := h5 P T gT Q β D z nn g0 g1 g3 g4 g5 gn Sr hS hX
    exact ⟨Q', β', D', z, nn', a0, a1, a3, a4, a5, an, W, rGo_x (d := d + 14) b1, Or.inl b2⟩
  · subst h1
    refine end_nxt h2 h3 h4 h4' (fun P T β gT Sr hS hX => ?_)
    obtain ⟨Q, D, z, nn, g0, g1, g3, g4, g5, gn, hX⟩ := hX
    obtain ⟨Q', β', D', nn', a0, a1, a3, a4, a5, an, W, b1, b2, b3⟩ := h5 P T gT Q β D z nn g0 g1 g3 g4 g5 gn Sr hS hX
    exact ⟨Q', β', D', z, nn', a0, a1, a3, a4, a5, an, W, b1, b2, b3⟩
end
