/-! PARAMETERS in the class -/
theorem nI_suc (n : Nat) : nI n + nI 1 = nI (n + 1) := by
  show Int32.ofNat n + Int32.ofNat 1 = Int32.ofNat (n + 1)
  rw [Int32.ofNat_add]
section
variable {A : Nat → Int32} {n z0 fb l a c f ab lo : Nat} {S0 B : cS} {H : List Nat} {qa qc qf qe qs qn d : Nat}
/-- how many parameters, behind a fault -/
theorem yB_28 {S : cS} {q : Nat} {x : Int32} (h : yB A n S0 z0 fb l a c f ab lo H qa qc qf qe qs qn B S) (hq : fb ≤ q) : yB A n S0 z0 fb l a c f ab lo H qa qc qf qe qs qn B (wA 28 q x S) := by
  obtain ⟨ps, t', k1, k2, k3, k4, k5⟩ := id h.2.2.2.1
  refine yB_w h (FrT_wA (by decide) (FrT.refl _ _ _ _ _)) (yC_S h.2.1 (fun i _ => rfl)) (kQ_A (fun i _ => rfl) (fun _ _ => ⟨rfl, rfl⟩) (fun _ _ => ⟨rfl, rfl⟩) (fun _ _ => rfl) (fun y hy i hi => ?_)) ⟨ps, t', k1, k2, chL_S ps _ (fun p _ => by rw [rAn _ _ _ (by decide)]) k3, k4, k5⟩ (yV_F (LI := []) (LJ := []) (LA := [28]) (LL := []) h.2.2.2.2.2 (FrT_wA (by decide) (FrT.refl _ _ _ _ _)) (by decide) (by decide))
  by_cases h28 : y = 28
  · subst h28
    show upd (sA S 28) q x i = _
    rw [upd_at, if_neg (by omega)]
  · rw [rAn _ _ _ h28]
theorem prE_B {S : cS} (h : yB A n S0 z0 fb l a c f ab lo H qa qc qf qe qs qn B S) {fd nu m : Nat} (hm : m = 0 ∨ 8 < fd) (hmM : m < 2 ^ 20) (hfd : fd < 2 ^ 20) (hnu : nu < 2 ^ 20) : ∃ S1, (∀ lv : sm_L, sm_get lv 0 = some (.ref 43) → sm_get lv 1 = some (.int (nI nu)) → sm_get lv 2 = some (.int (nI m)) → sm_get lv 3 = some (.int (nI fd)) → Bod (d + 9) 100 29 lv [] S none S1) ∧ yB A n S0 z0 fb l a c f ab lo H qa qc qf qe qs qn B S1 := by
  by_cases h8 : 8 < fd
  · obtain ⟨S1, p1, p2⟩ := yB_fail (d := d + 8) h
    obtain ⟨S2, q1, q2⟩ := yB_pass (d := d + 7) (t := 7) p2 (by omega) (by omega)
    refine ⟨S2, fun lv e0 e1 e2 e3 => ?_, q2⟩
    by_cases h0 : m = 0
    · exact cPsr_2 (d := d + 1) e3 e2 e0 e1 hfd hmM hnu h0 h8 p1 q1
    · exact cPsr_3 (d := d + 1) e3 e2 e0 e1 hfd hmM hnu h0 h8 p1 q1
  · obtain ⟨S2, q1, q2⟩ := yB_pass (d := d + 7) (t := 7) h (by omega) (by omega)
    exact ⟨S2, fun lv e0 e1 e2 e3 => cPsr_1 (d := d + 1) e3 e2 e0 e1 hfd hmM hnu (hm.elim id (fun h => absurd h h8)) (by omega) q1, q2⟩
/-- a turn whose name was taken, and there a fault came -/
theorem prF_B {S S1 : cS} {b : Int32} (h : yB A n S0 z0 fb l a c f ab lo H qa qc qf qe qs qn B S1) (hb : Ans (d + 9) 92 [.ref 43] S (some (.int b)) S1) {fd nu : Nat} (hfd : fd ≤ 8) (hnu : nu < 900) (hfb : fb ≤ nu) : ∃ S2, (∀ lv : sm_L, sm_get lv 0 = some (.ref 43) → sm_get lv 1 = some (.int (nI nu)) → sm_get lv 2 = some (.int (nI 1)) → sm_get lv 3 = some (.int (nI fd)) → Bod (d + 9) 100 29 lv [] S none S2) ∧ yB A n S0 z0 fb l a c f ab lo H qa qc qf qe qs qn B S2 := by
  have hp := addParameter_T (d := d + 7) (S := S1) hnu
  have h2 := yB_28 (q := nu) (x := sA S1 28 nu + nI 1) h hfb
  obtain ⟨S3, q1, q2⟩ := prE_B (d := d) (fd := fd + 1) (nu := nu) (m := 0) h2 (Or.inl rfl) (by omega) (by omega) (by omega)
  exact ⟨S3, fun lv e0 e1 e2 e3 => cPsr_4 (d := d + 1) (tk := 0) (tk1 := 0) e3 e2 e0 e1 (by omega) (by omega) (by omega) (by omega) hfd hb (yB_5 h) (by omega) rfl hp (yB_5 h2) (by omega) (by omega) (fun lv1 r0 r1 r2 r3 => q1 lv1 r0 r1 r2 r3), q2⟩
/-- the same where the scopes said no -/
theorem prD_B {S S1 : cS} {q tk : Nat} (h : yB A n S0 z0 fb l a c f ab lo H qa qc qf qe qs qn B S1) {S' : cS} (hb : Ans (d + 9) 92 [.ref 43] S (some (.int (nI q))) S') (htk : sI S' 3105 = nI tk) (htk0 : tk ≠ 0) (htkM : tk < 2 ^ 20) (hpr : Ans (d + 9) 101 [.ref 32, .int (nI q)] S' (some (.int (nI 0))) S') (hfl : Ans (d + 9) 44 [.ref 31] S' none S1) {fd nu : Nat} (hfd : fd ≤ 8) (hnu : nu < 900) (hfb : fb ≤ nu) : ∃ S2, (∀ lv : sm_L, sm_get lv 0 = some (.ref 43) → sm_get lv 1 = some (.int (nI nu)) → sm_get lv 2 = some (.int (nI 1)) → sm_get lv 3 = some (.int (nI fd)) → Bod (d + 9) 100 29 lv [] S none S2) ∧ yB A n S0 z0 fb l a c f ab lo H qa qc qf qe qs qn B S2 := by
  have hp := addParameter_T (d := d + 7) (S := S1) hnu
  have h2 := yB_28 (q := nu) (x := sA S1 28 nu + nI 1) h hfb
  obtain ⟨S3, q1, q2⟩ := prE_B (d := d) (fd := fd + 1) (nu := nu) (m := 0) h2 (Or.inl rfl) (by omega) (by omega) (by omega)
  exact ⟨S3, fun lv e0 e1 e2 e3 => cPsr_8 (d := d + 1) (tk1 := 0) e3 e2 e0 e1 (by omega) (by omega) (by omega) (by omega) hfd hb htk htkM htk0 hpr hfl hp (yB_5 h2) (by omega) (by omega) (fun lv1 r0 r1 r2 r3 => q1 lv1 r0 r1 r2 r3), q2⟩
/-- parameters behind a fault -/
theorem prs_B {S : cS} (h : yB A n S0 z0 fb l a c f ab lo H qa qc qf qe qs qn B S) {nu : Nat} (hnu : nu < 900) (hfb : fb ≤ nu) : ∃ S1, Ans (d + 10) 100 [.ref 43, .int (nI nu)] S none S1 ∧ yB A n S0 z0 fb l a c f ab lo H qa qc qf qe qs qn B S1 := by
  obtain ⟨S1, p1, p2⟩ := yB_pass (d := d + 7) (t := 6) h (by omega) (by omega)
  obtain ⟨S2, q1, q2⟩ := yB_name (d := d) p2
  obtain ⟨S3, r1, r2⟩ := prF_B (d := d) (fd := 0) q2 q1 (by omega) hnu hfb
  exact ⟨S3, Ans.of (by rw [ml_100]; exact Nat.le_of_ble_eq_true rfl) (Bod.lv (by rfl) (cPs0_2 (d := d + 1) (tk := 0) (by omega) p1 (yB_5 p2) (by omega) (by omega) (fun lv1 r0' r1' r2' r3' => r1 lv1 r0' r1' r2' r3'))), r2⟩
end
section
variable {A : Nat → Int32} {n z0 fb a0 F s ab d : Nat} {S0 : cS}
theorem yOK_sc2 {a c f k : Nat} {sc sc1 : SCs} {at' : List Nat} {S S1 : cS} (h : yG A n S0 z0 fb a0 s ab k sc at' a c f S) (hF : FrT [3213] [] [28, 35, 36, 37, 38, 40] [] S S1) (h28 : ∀ i, i < fb → sA S1 28 i = sA S 28 i) (h1 : sc1.1 = sc.1) (hS : yS (by1 A) n fb a0 sc1 S1) (hN : yN fb sc1 S1) (hW : scW (Eb (by1 A) n) sc1) (h13 : sI S1 3213 = nI sc1.2.length) (hM : sc1.2.length ≤ 1600) : yOK A n S0 z0 fb a0 s ab S a c f (k, [], sc1, at') S1 := by
  obtain ⟨g1, g2, g3, g4, g5, g6, g7, g8, g9, g10, g11, g12, ⟨tr, lt, g13, g13b, g13c, g13d⟩, g14, g15, g16, g17, g18, g19⟩ := h
  have e1 : ∀ i, i ∈ [3102, 3103, 3104, 3105, 3106, 3107, 3108, 3109, 3113, 1607] → i ∉ [3213] := by decide
  have e2 : ∀ a, a ∈ [1, 19, 20] → a ∉ [28, 35, 36, 37, 38, 40] := by decide
  have hL : ∀ x, sL S1 x = sL S x := fun x => hF.2.2.2.1 x (fun h => by cases h)
  have hnK : nK S S1 := cP_nK g1 (hF.1 _ (by decide)) (fun a _ => hL a)
  have hP1 : cP A n S0 z0 k S1 := cP_S g1 (fun i hi => hF.1 i (e1 i hi)) (fun i _ => hF.2.1 i (fun h => by cases h)) (fun a ha => hF.2.2.1 a (e2 a ha)) (fun a _ => hL a)
  obtain ⟨z, z1, z2, z3, z4⟩ := cP_NT g1
  have hA : ∀ x, x ∉ [28, 35, 36, 37, 38, 40] → sA S1 x = sA S x := hF.2.2.1
  refine ⟨⟨hP1, ⟨(hF.1 _ (by decide)).trans g2.1, (hF.1 _ (by decide)).trans g2.2.1, (hF.1 _ (by decide)).trans g2.2.2.1, (hF.1 _ (by decide)).trans g2.2.2.2.1, g2.2.2.2.2⟩, ?_, ?_, h13, hS, hN, hW, ?_, yAt_S g10 hnK (hF.1 _ (by decide)) (hA 45 (by decide)), (hF.1 _ (by decide)).trans g11, fun i hi => by rw [hA 41 (by decide)]; exact g12 i hi, ⟨tr, lt, (hF.1 _ (by decide)).trans g13, (hF.1 _ (by decide)).trans g13b, g13c, g13d⟩, g14, g15, g16, hM, ?_, ?_⟩, ⟨z, c, (hF.1 _ (by decide)).trans z1, z2, (hF.1 _ (by decide)).trans g2.2.1, g14, trivial⟩, trivial, ⟨hF.mono (by decide) (fun _ h => by cases h) (by decide) (fun _ h => by cases h), kQ_A (fun i _ => by rw [hA 24 (by decide)]) (fun i _ => by rw [hL, hL]; exact ⟨rfl, rfl⟩) (fun i _ => by rw [hA 41 (by decide), hA 42 (by decide)]; exact ⟨rfl, rfl⟩) (fun i _ => by rw [hA 45 (by decide)]) (fun y hy i hi => ?_), hnK⟩, hF.1 _ (by decide), trivial⟩
  · dsimp only; rw [h1]; exact (hF.1 _ (by decide)).trans g3
  · dsimp only; rw [h1]; exact (hF.1 _ (by decide)).trans g4
  · dsimp only; rw [h1]; exact g9
  · dsimp only; rw [h1]; exact g18
  · dsimp only; rw [h1]; exact g19
  · simp only [List.mem_cons, List.not_mem_nil, or_false] at hy
    rcases hy with rfl | rfl | rfl | rfl
    · rw [hA 27 (by decide)]
    · exact h28 i hi
    · rw [hA 29 (by decide)]
    · rw [hA 30 (by decide)]
theorem add_1 {a c f k kn q kd : Nat} {sc : SCs} {at' : List Nat} {S : cS} (h : yG A n S0 z0 fb a0 s ab k sc at' a c f S) (hs : s ≠ 0) (hq : nmR (by1 A) n S kn (nI q)) (hM : sc.2.length + 1 ≤ 1600) : ∃ S1, Ans (d + 1) 96 [.ref 32, .int (nI q), .int (nI kd)] S none S1 ∧ FrT [3213] [] [35, 36, 37, 38, 40] [] S S1 ∧ sI S1 3213 = nI (sc.2.length + 1) ∧ yS (by1 A) n fb a0 (scA s kn kd sc) S1 ∧ nK S S1 := by
  obtain ⟨g1, g2, g3, g4, g5, g6, g7, g8, g9, g10⟩ := id h
  have hF : FrT [3213] [] [35, 36, 37, 38, 40] [] S (wI 3213 (nI (sc.2.length + 1)) (wA 35 s (nI sc.2.length) (wA 40 sc.2.length (sA (wA 38 sc.2.length (nI kd) (wA 37 sc.2.length (nI s) (wA 36 sc.2.length (nI q) S))) 35 s) (wA 38 sc.2.length (nI kd) (wA 37 sc.2.length (nI s) (wA 36 sc.2.length (nI q) S)))))) := FrT_wI (by decide) (FrT_wA (by decide) (FrT_wA (by decide) (FrT_wA (by decide) (FrT_wA (by decide) (FrT_wA (by decide) (FrT.refl _ _ _ _ _))))))
  have hnK := cP_nK g1 (hF.1 1607 (by decide)) (fun a _ => hF.2.2.2.1 a (fun h => by cases h))
  exact ⟨_, add_ev (d := d) g2.2.2.2.1 g5 (by omega) g2.2.2.2.2, hF, rIe _ _ _, yS_add g6 hq (by omega) g9 hnK rfl rfl rfl rfl rfl (fun x hx => hF.2.2.1 x (by
    have : ∀ x, x ∈ [27, 29, 30, 33, 34] → x ∉ [35, 36, 37, 38, 40] := by decide
    exact this x hx)), hnK⟩
/-- one parameter more -/
theorem prm_T {a c f k kn q : Nat} {sc : SCs} {at' : List Nat} {S : cS} (h : yG A n S0 z0 fb a0 s ab k sc at' a c f S) (hs : s ≠ 0) (hq : nmR (by1 A) n S kn (nI q)) (hqM : q < 4096) (hf : scF (Eb (by1 A) n) sc s kn = none) (hM : sc.2.length + 1 ≤ 1600) (hfn : fb + sc.1.length ≤ 894) : ∃ S1 S2, Ans (d + 10) 101 [.ref 32, .int (nI q)] S (some (.int (nI 1))) S1 ∧ sI S1 3105 = sI S 3105 ∧ Ans (d + 10) 102 [.ref 23, .int (nI (fb + s - 1))] S1 none S2 ∧ yOK A n S0 z0 fb a0 s ab S a c f (k, [], scA s kn 1 sc, at') S2 := by
  obtain ⟨g1, g2, g3, g4, g5, g6, g7, g8, g9, g10⟩ := id h
  obtain ⟨z, z1, z2, z3, z4⟩ := cP_NT g1
  obtain ⟨x, x1, x2⟩ := ent_S (d := d) g6 g8 z4 hq hqM (by omega) g9 h.2.2.2.2.2.2.2.2.2.2.2.2.2.2.2.2.2.1 h.2.2.2.2.2.2.2.2.2.2.2.2.2.2.2.2.1
  have hx : x = Int32.ofInt (-1) := by
    rcases x2 with ⟨_, x2⟩ | ⟨e, _, _, x2, _⟩
    · exact x2
    · rw [hf] at x2
      cases x2
  subst hx
  obtain ⟨S1, hadd, hF1, h13, hYS, hnK⟩ := add_1 (d := d + 8) (kd := 1) h hs hq hM
  have hp := addParameter_T (d := d + 8) (q := fb + s - 1) (S := S1) (by omega)
  have e28 : sA S1 28 = sA S 28 := hF1.2.2.1 28 (by decide)
  have hlen : (scA s kn 1 sc).2.length = sc.2.length + 1 := by unfold scA; dsimp only; rw [List.length_append]; rfl
  refine ⟨S1, _, Ans.of (by rw [ml_101]; exact Nat.le_of_ble_eq_true rfl) (Bod.lv (by rfl) (cPrr_2 (d := d + 1) g2.2.2.2.1 (by have := g2.2.2.2.2; omega) x1 hadd)), hF1.1 _ (by decide), hp, yOK_sc2 h (FrT_wA (by decide) (hF1.mono (fun _ h => h) (fun _ h => h) (by decide) (fun _ h => h))) (fun i hi => ?_) rfl (yS_S hYS (nK_S hnK (T := S1) (hF1.1 1607 (by decide)) rfl (fun x _ => hF1.2.2.2.1 x (fun h => by cases h)) (fun _ _ => rfl)) (fun x hx => rAn _ _ _ (by
      have : ∀ x, x ∈ [27, 29, 30, 33, 34, 35, 36, 37, 38, 40] → x ≠ 28 := by decide
      exact this x hx))) (fun i i1 i2 => ?_) (scW_add (fun _ _ h => Eb_symm h) g8 (by omega) g9 hf (by omega)) ?_ (by omega)⟩
  · show upd (sA S1 28) (fb + s - 1) _ i = _
    rw [upd_at, if_neg (by omega), e28]
  · show upd (sA S1 28) (fb + s - 1) (sA S1 28 (fb + s - 1) + nI 1) (fb + i - 1) = nI (npS (sc.2 ++ [(s, kn, 1)]) i)
    rw [npS_add, upd_at, e28]
    by_cases hi : s = i
    · subst hi
      rw [if_pos rfl, if_pos ⟨rfl, rfl⟩, g7 s i1 i2, nI_suc]
    · rw [if_neg (by omega), if_neg (fun hc => hi hc.1)]
      exact g7 i i1 i2
  · rw [hlen]
    exact (rAI _ _ _ _ _).trans h13
/-- a parameter that is there already -/
theorem prm_N {a c f k kn q : Nat} {sc : SCs} {at' : List Nat} {S : cS} (h : yG A n S0 z0 fb a0 s ab k sc at' a c f S) (hs : s ≠ 0) (hq : nmR (by1 A) n S kn (nI q)) (hqM : q < 4096) (hf : scF (Eb (by1 A) n) sc s kn ≠ none) : Ans (d + 10) 101 [.ref 32, .int (nI q)] S (some (.int (nI 0))) S := by
  obtain ⟨g1, g2, g3, g4, g5, g6, g7, g8, g9, g10⟩ := id h
  obtain ⟨z, z1, z2, z3, z4⟩ := cP_NT g1
  obtain ⟨x, x1, x2⟩ := ent_S (d := d) g6 g8 z4 hq hqM (by omega) g9 h.2.2.2.2.2.2.2.2.2.2.2.2.2.2.2.2.2.1 h.2.2.2.2.2.2.2.2.2.2.2.2.2.2.2.2.1
  rcases x2 with ⟨x2, _⟩ | ⟨e, e1, x2, _⟩
  · exact absurd x2 hf
  · subst x2
    have := h.2.2.2.2.2.2.2.2.2.2.2.2.2.2.2.2.1
    exact Ans.of (by rw [ml_101]; exact Nat.le_of_ble_eq_true rfl) (Bod.lv (by rfl) (cPrr_1 (d := d + 1) g2.2.2.2.1 (by have := g2.2.2.2.2; omega) (by omega) x1))
/-- parameters, c of them so far -/
theorem prs_L (hX : yPre A n S0 z0) {a c f : Nat} {at' : List Nat} (hs : s ≠ 0) (ha : a ≤ 39600) (hc : c ≤ 5152) (hf : f ≤ 1510) : ∀ (M fd k : Nat) (sc : SCs) (S : cS), M + fd = 20 → fd ≤ 8 → yG A n S0 z0 fb a0 s ab k sc at' a c f S → 2 * sc.2.length + rm (by1 A) n k ≤ 3018 → sc.1.length ≤ 280 → fb + sc.1.length ≤ 894 → ∃ S1, (∀ lv : sm_L, sm_get lv 0 = some (.ref 43) → sm_get lv 1 = some (.int (nI (fb + s - 1))) → sm_get lv 2 = some (.int (nI 1)) → sm_get lv 3 = some (.int (nI fd)) → Bod (d + 10) 100 29 lv [] S none S1) ∧ (∀ x, psPr (qK (by1 A) n) (Eb (by1 A) n) s M fd sc k = some x → yOK A n S0 z0 fb a0 s ab S a c f (x.1, [], x.2.1, at') S1) ∧ (psPr (qK (by1 A) n) (Eb (by1 A) n) s M fd sc k = none → yB A n S0 z0 fb (qL (by1 A) n k) a c f ab (a + 2) [] 39600 5152 1510 1510 280 893 S S1) := by
  intro M
  induction M with
  | zero => intro fd k sc S h1 h2; omega
  | succ M ih =>
    intro fd k sc S hM hfd h hE hs1 hfn
    have hsl : s < sc.1.length := h.2.2.2.2.2.2.2.2.1
    have hrp := rm_pos (by1 A) n k
    have hfb : fb ≤ fb + s - 1 := by omega
    have hnu : fb + s - 1 < 900 := by omega
    by_cases k3 : qK (by1 A) n k ≠ 3
    · obtain ⟨S1, p1, p2⟩ := pass_X (d := d + 1) (t := 3) (qa := 39600) (qc := 5152) (qf := 1510) (qe := 1510) hX.1 hX.2 (yOK_nil h) k3 (by omega) ha hc hf (by omega) hs1 hfn
      obtain ⟨S2, q1, q2⟩ := prF_B (d := d + 1) (S := S) (b := sI S 3109) (fd := fd) p2 (Ans.of (by rw [ml_92]; exact Nat.le_of_ble_eq_true rfl) (Bod.lv (by rfl) (cTkr_1 (d := d + 1) p1))) hfd hnu hfb
      have e : psPr (qK (by1 A) n) (Eb (by1 A) n) s (M + 1) fd sc k = none := by
        unfold psPr
        exact if_neg (fun hc => k3 hc.1)
      exact ⟨S2, q1, fun x hx => (by rw [e] at hx; cases hx), fun _ => q2⟩
    have k3' : qK (by1 A) n k = 3 := by omega
    obtain ⟨S1, q, p1, qM, Y1, hnm, _⟩ := name_O (d := d + 1) hX.1 (yOK_nil h) k3'
    have G1 : yG A n S0 z0 fb a0 s ab (k + 1) sc at' a c f S1 := Y1.1
    obtain ⟨g1, g2, g3, g4⟩ := rm_gt (β := by1 A) (n := n) (k := k) (by omega)
    have htk := cP_5 G1.1
    have hqk := q_lt (by1 A) n (k + 1)
    by_cases k0 : qK (by1 A) n (k + 1) = 0
    · have e : psPr (qK (by1 A) n) (Eb (by1 A) n) s (M + 1) fd sc k = none := by
        unfold psPr
        split
        · split
          · rfl
          · rw [if_neg (by omega), if_neg (by omega)]
        · rfl
      have b1 := yRes_bad (qa := 39600) (qc := 5152) (qf := 1510) (qe := 1510) hX.1.1 Y1 (cP_B hX.1 G1.1 k0) (FrT.refl _ _ _ _ _) (nK_id G1.1) ha hc hf (by omega) hs1 hfn
      obtain ⟨S2, q1, q2⟩ := prF_B (d := d + 1) (S := S) (fd := fd) b1 p1 hfd hnu hfb
      exact ⟨S2, q1, fun x hx => (by rw [e] at hx; cases hx), fun _ => (by rw [← g3]; exact q2)⟩
    cases hsc : scF (Eb (by1 A) n) sc s k with
    | some e0 =>
      have e : psPr (qK (by1 A) n) (Eb (by1 A) n) s (M + 1) fd sc k = none := by
        unfold psPr scP
        rw [hsc]
        split
        · rfl
        · rfl
      obtain ⟨S2, q1, q2⟩ := fail_X (d := d + 2) (qa := 39600) (qc := 5152) (qf := 1510) (qe := 1510) hX.1 hX.2 Y1 ha hc hf (by omega) hs1 hfn
      obtain ⟨S3, r1, r2⟩ := prD_B (d := d + 1) (fd := fd) q2 p1 htk k0 (by omega) (prm_N (d := d) G1 hs hnm qM (by rw [hsc]; exact fun h => by cases h)) q1 hfd hnu hfb
      exact ⟨S3, r1, fun x hx => (by rw [e] at hx; cases hx), fun _ => (by rw [← g3]; exact r2)⟩
    | none =>
      obtain ⟨S2, S3, u1, u2, u3, Y3⟩ := prm_T (d := d) G1 hs hnm qM hsc (by omega) hfn
      have G3 : yG A n S0 z0 fb a0 s ab (k + 1) (scA s k 1 sc) at' a c f S3 := Y3.1
      have htk3 := cP_5 G3.1
      have hl : (scA s k 1 sc).2.length = sc.2.length + 1 := by unfold scA; dsimp only; rw [List.length_append]; rfl
      have hl1 : (scA s k 1 sc).1 = sc.1 := rfl
      have Y13 : yOK A n S0 z0 fb a0 s ab S a c f (k + 1, [], scA s k 1 sc, at') S3 := yOK_app Y1 Y3
      by_cases k12 : qK (by1 A) n (k + 1) = 12
      · obtain ⟨g5, g6, g7, g8⟩ := rm_gt' (β := by1 A) (n := n) (k := k + 1) (k' := k + 2) rfl (by omega)
        obtain ⟨S4, v1, Y4, _, _⟩ := pass_O (d := d + 2) hX.1 Y13 k12 (by omega)
        have G4 : yG A n S0 z0 fb a0 s ab (k + 2) (scA s k 1 sc) at' a c f S4 := Y4.1
        by_cases h8 : fd < 8
        · obtain ⟨S5, i1, i2, i3⟩ := ih (fd + 1) (k + 2) (scA s k 1 sc) S4 (by omega) (by omega) G4 (by omega) (by rw [hl1]; exact hs1) (by rw [hl1]; exact hfn)
          have e : psPr (qK (by1 A) n) (Eb (by1 A) n) s (M + 1) fd sc k = psPr (qK (by1 A) n) (Eb (by1 A) n) s M (fd + 1) (scA s k 1 sc) (k + 2) := by
            show (if qK (by1 A) n k = 3 ∧ fd < 8 then _ else _) = _
            rw [if_pos ⟨k3', h8⟩]
            unfold scP
            rw [hsc]
            exact if_pos k12
          refine ⟨S5, fun lv e0 e1 e2 e3 => cPsr_7 (d := d + 2) e3 e2 e0 e1 (by omega) (by omega) (by omega) (by omega) hfd p1 htk (by omega) k0 u1 u3 htk3 (by omega) k12 v1 (fun lv1 r0 r1 r2 r3 => i1 lv1 r0 r1 r2 r3), fun x hx => ?_, fun hx => ?_⟩
          · rw [e] at hx
            exact yOK_app Y4 (i2 x hx)
          · rw [e] at hx
            have := yOK_bad (H := []) Y4 (i3 hx) (Nat.le_refl _) (fun p hp => by cases hp)
            rw [g7, g3] at this
            exact this
        · have e : psPr (qK (by1 A) n) (Eb (by1 A) n) s (M + 1) fd sc k = none := by
            unfold psPr
            exact if_neg (fun hc => h8 hc.2)
          obtain ⟨S5, i1, i2⟩ := fail_X (d := d + 2) (qa := 39600) (qc := 5152) (qf := 1510) (qe := 1510) hX.1 hX.2 Y4 ha hc hf (by omega) (by rw [hl1]; exact hs1) (by rw [hl1]; exact hfn)
          obtain ⟨S6, j1, j2⟩ := yB_pass (d := d + 8) (t := 7) i2 (by omega) (by omega)
          refine ⟨S6, fun lv e0 e1 e2 e3 => cPsr_7 (d := d + 2) e3 e2 e0 e1 (by omega) (by omega) (by omega) (by omega) hfd p1 htk (by omega) k0 u1 u3 htk3 (by omega) k12 v1 (fun lv1 r0 r1 r2 r3 => cPsr_3 (d := d + 2) r3 r2 r0 r1 (by omega) (by omega) (by omega) (by omega) (by omega) i1 j1), fun x hx => (by rw [e] at hx; cases hx), fun _ => ?_⟩
          rw [g7, g3] at j2
          exact j2
      · have hgo : ∀ {S5 : cS}, (∀ lv1 : sm_L, sm_get lv1 0 = some (.ref 43) → sm_get lv1 1 = some (.int (nI (fb + s - 1))) → sm_get lv1 2 = some (.int (nI 0)) → sm_get lv1 3 = some (.int (nI (fd + 1))) → Bod (d + 10) 100 29 lv1 [] S3 none S5) → ∀ lv : sm_L, sm_get lv 0 = some (.ref 43) → sm_get lv 1 = some (.int (nI (fb + s - 1))) → sm_get lv 2 = some (.int (nI 1)) → sm_get lv 3 = some (.int (nI fd)) → Bod (d + 10) 100 29 lv [] S none S5 := fun {S5} hB lv e0 e1 e2 e3 => cPsr_6 (d := d + 2) e3 e2 e0 e1 (by omega) (by omega) (by omega) (by omega) hfd p1 htk (by omega) k0 u1 u3 htk3 (by omega) k12 hB
        by_cases h8 : fd < 8
        · by_cases k7 : qK (by1 A) n (k + 1) = 7
          · obtain ⟨S4, v1, Y4, _, _⟩ := pass_O (d := d + 2) hX.1 Y13 k7 (by omega)
            have e : psPr (qK (by1 A) n) (Eb (by1 A) n) s (M + 1) fd sc k = some (k + 2, scA s k 1 sc, fd + 1) := by
              show (if qK (by1 A) n k = 3 ∧ fd < 8 then _ else _) = _
              rw [if_pos ⟨k3', h8⟩]
              unfold scP
              rw [hsc]
              show (if qK (by1 A) n (k + 1) = 12 then _ else if qK (by1 A) n (k + 1) = 7 then _ else _) = _
              rw [if_neg k12, if_pos k7]
            refine ⟨S4, hgo (fun lv1 r0 r1 r2 r3 => cPsr_1 (d := d + 2) r3 r2 r0 r1 (by omega) (by omega) (by omega) rfl (by omega) v1), fun x hx => ?_, fun hx => (by rw [e] at hx; cases hx)⟩
            rw [e] at hx
            injection hx with hx
            subst hx
            exact Y4
          · obtain ⟨S4, v1, v2⟩ := pass_X (d := d + 2) (t := 7) (qa := 39600) (qc := 5152) (qf := 1510) (qe := 1510) hX.1 hX.2 Y13 k7 (by omega) ha hc hf (by omega) (by rw [hl1]; exact hs1) (by rw [hl1]; exact hfn)
            have e : psPr (qK (by1 A) n) (Eb (by1 A) n) s (M + 1) fd sc k = none := by
              show (if qK (by1 A) n k = 3 ∧ fd < 8 then _ else _) = _
              rw [if_pos ⟨k3', h8⟩]
              unfold scP
              rw [hsc]
              show (if qK (by1 A) n (k + 1) = 12 then _ else if qK (by1 A) n (k + 1) = 7 then _ else _) = _
              rw [if_neg k12, if_neg k7]
            refine ⟨S4, hgo (fun lv1 r0 r1 r2 r3 => cPsr_1 (d := d + 2) r3 r2 r0 r1 (by omega) (by omega) (by omega) rfl (by omega) v1), fun x hx => (by rw [e] at hx; cases hx), fun _ => ?_⟩
            rw [g3] at v2
            exact v2
        · have e : psPr (qK (by1 A) n) (Eb (by1 A) n) s (M + 1) fd sc k = none := by
            unfold psPr
            exact if_neg (fun hc => h8 hc.2)
          obtain ⟨S5, i1, i2⟩ := fail_X (d := d + 2) (qa := 39600) (qc := 5152) (qf := 1510) (qe := 1510) hX.1 hX.2 Y13 ha hc hf (by omega) (by rw [hl1]; exact hs1) (by rw [hl1]; exact hfn)
          obtain ⟨S6, j1, j2⟩ := yB_pass (d := d + 8) (t := 7) i2 (by omega) (by omega)
          refine ⟨S6, hgo (fun lv1 r0 r1 r2 r3 => cPsr_2 (d := d + 2) r3 r2 r0 r1 (by omega) (by omega) (by omega) rfl (by omega) i1 j1), fun x hx => (by rw [e] at hx; cases hx), fun _ => ?_⟩
          rw [g3] at j2
          exact j2
/-- parameters as a whole -/
theorem prs_T (hX : yPre A n S0 z0) {a c f k : Nat} {sc : SCs} {at' : List Nat} {S : cS} (hs : s ≠ 0) (ha : a ≤ 39600) (hc : c ≤ 5152) (hf : f ≤ 1510) (h : yG A n S0 z0 fb a0 s ab k sc at' a c f S) (hE : 2 * sc.2.length + rm (by1 A) n k ≤ 3018) (hs1 : sc.1.length ≤ 280) (hfn : fb + sc.1.length ≤ 894) : ∃ S1, Ans (d + 11) 100 [.ref 43, .int (nI (fb + s - 1))] S none S1 ∧ (∀ x, qK (by1 A) n k = 6 → psPs (qK (by1 A) n) (Eb (by1 A) n) s sc (k + 1) = some x → yOK A n S0 z0 fb a0 s ab S a c f (x.1, [], x.2.1, at') S1) ∧ (qK (by1 A) n k ≠ 6 ∨ psPs (qK (by1 A) n) (Eb (by1 A) n) s sc (k + 1) = none → yB A n S0 z0 fb (qL (by1 A) n k) a c f ab (a + 2) [] 39600 5152 1510 1510 280 893 S S1) := by
  have hsl : s < sc.1.length := h.2.2.2.2.2.2.2.2.1
  have hfb : fb ≤ fb + s - 1 := by omega
  have hnu : fb + s - 1 < 900 := by omega
  have hrp := rm_pos (by1 A) n k
  by_cases k6 : qK (by1 A) n k = 6
  · obtain ⟨S1, p1, Y1, _, _⟩ := pass_O (d := d + 2) hX.1 (yOK_nil h) k6 (by omega)
    have G1 : yG A n S0 z0 fb a0 s ab (k + 1) sc at' a c f S1 := Y1.1
    obtain ⟨g1, g2, g3, g4⟩ := rm_gt (β := by1 A) (n := n) (k := k) (by omega)
    have htk := cP_5 G1.1
    have hqk := q_lt (by1 A) n (k + 1)
    by_cases k7 : qK (by1 A) n (k + 1) = 7
    · obtain ⟨S2, q1, Y2, _, _⟩ := pass_O (d := d + 2) hX.1 Y1 k7 (by omega)
      have e : psPs (qK (by1 A) n) (Eb (by1 A) n) s sc (k + 1) = some (k + 1 + 1, sc, 0) := by unfold psPs; exact if_pos k7
      refine ⟨S2, Ans.of (by rw [ml_100]; exact Nat.le_of_ble_eq_true rfl) (Bod.lv (by rfl) (cPs0_1 (d := d + 2) (by omega) p1 htk (by omega) k7 (fun lv1 r0 r1 r2 r3 => cPsr_1 (d := d + 2) r3 r2 r0 r1 (by omega) (by omega) (by omega) rfl (by omega) q1))), fun x _ hx => ?_, fun hx => hx.elim (fun h => absurd k6 h) (fun h => (by rw [e] at h; cases h))⟩
      rw [e] at hx
      injection hx with hx
      subst hx
      exact Y2
    · obtain ⟨S2, i1, i2, i3⟩ := prs_L (d := d) hX hs ha hc hf 20 0 (k + 1) sc S1 (by omega) (by omega) G1 (by omega) hs1 hfn
      have e : psPs (qK (by1 A) n) (Eb (by1 A) n) s sc (k + 1) = psPr (qK (by1 A) n) (Eb (by1 A) n) s 20 0 sc (k + 1) := by unfold psPs; exact if_neg k7
      refine ⟨S2, Ans.of (by rw [ml_100]; exact Nat.le_of_ble_eq_true rfl) (Bod.lv (by rfl) (cPs0_2 (d := d + 2) (by omega) p1 htk (by omega) k7 (fun lv1 r0 r1 r2 r3 => i1 lv1 r0 r1 r2 r3))), fun x _ hx => ?_, fun hx => hx.elim (fun h => absurd k6 h) (fun h => ?_)⟩
      · rw [e] at hx
        exact yOK_app Y1 (i2 x hx)
      · rw [e] at h
        have := yOK_bad (H := []) Y1 (i3 h) (Nat.le_refl _) (fun p hp => by cases hp)
        rw [g3] at this
        exact this
  · obtain ⟨S1, p1, p2⟩ := pass_X (d := d + 2) (t := 6) (qa := 39600) (qc := 5152) (qf := 1510) (qe := 1510) hX.1 hX.2 (yOK_nil h) k6 (by omega) ha hc hf (by omega) hs1 hfn
    obtain ⟨S2, q1, q2⟩ := yB_name (d := d + 1) p2
    obtain ⟨S3, r1, r2⟩ := prF_B (d := d + 1) (fd := 0) q2 q1 (by omega) hnu hfb
    exact ⟨S3, Ans.of (by rw [ml_100]; exact Nat.le_of_ble_eq_true rfl) (Bod.lv (by rfl) (cPs0_2 (d := d + 2) (tk := 0) (by omega) p1 (yB_5 p2) (by omega) (by omega) (fun lv1 r0' r1' r2' r3' => r1 lv1 r0' r1' r2' r3'))), fun x h _ => absurd h k6, fun _ => r2⟩
end
