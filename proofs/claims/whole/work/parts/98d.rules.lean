/-! THE RULES OF EXPR IN THE CLASS, by induction: and, or, sums, terms -/
def EA (A : Nat → Int32) (n : Nat) (S0 : cS) (z0 fb F : Nat) : Prop := ∀ t, t ∈ [0, 2, 4, 5, 6, 8, 10, 11, 15] → ∀ (d k : Nat) (S : cS) (a c f cur D M Mc Mf : Nat), d ≤ 12 → 16 * (n - qP (by1 A) n k) + rkp t < F → cP A n S0 z0 k S → eS S a c f cur → RM (by1 A) n k 1 (40 * (13 - d) + 2 * rkp t) a c f M Mc Mf → 20 + 16 * (13 - d) + rkp t ≤ D → ∃ S1, Ans D (jt t) [.ref 44, .int (nI d)] S none S1 ∧ eO A n S0 z0 fb S a c f cur k M Mc Mf (px (qK (by1 A) n) F t d k 0 0) S1
/-- a loop: of method j from pc on, with locals lv of so many turns -/
def EJ (A : Nat → Int32) (n : Nat) (S0 : cS) (z0 fb F t j pc lk : Nat) (lvJ : (Nat → Nat) → Nat → Nat → Nat → sm_L → Prop) : Prop := ∀ (d k : Nat) (S : cS) (a c f cur D M Mc Mf g : Nat) (lv : sm_L) (tt : Nat), lvJ (qK (by1 A) n) k d tt lv → d ≤ 12 → 16 * (n - qP (by1 A) n k) + 1 < F → cP A n S0 z0 k S → eS S a c f cur → RM (by1 A) n k 0 (40 * (13 - d) + 2 * lk) a c f M Mc Mf → sI S 4403 = nI g → (g ≠ 0 → sI S 4404 = nI (a - tl1 g)) → 2 * tt ≤ qP (by1 A) n k → 20 + 16 * (13 - d) + lk ≤ D → ∃ S1, Bod D j pc lv [] S none S1 ∧ eO A n S0 z0 fb S a c f cur k M Mc Mf (px (qK (by1 A) n) F t d k g 0) S1
def lv1 (_ : Nat → Nat) (_ d tt : Nat) (lv : sm_L) : Prop := lv = [(2, .int (nI tt)), (0, .ref 44), (1, .int (nI d))] ∨ ∃ z, lv = [(2, .int (nI tt)), (3, .int z), (0, .ref 44), (1, .int (nI d))]
def lv9 (K : Nat → Nat) (k d tt : Nat) (lv : sm_L) : Prop := lv = [(3, .int (nI tt)), (2, .int (nI (trmO (K k)))), (0, .ref 44), (1, .int (nI d))]
def lv12 (_ : Nat → Nat) (_ d tt : Nat) (lv : sm_L) : Prop := lv = [(3, .int (nI tt)), (2, .int (nI 1)), (0, .ref 44), (1, .int (nI d))]
section
variable {A : Nat → Int32} {n z0 fb F : Nat} {S0 : cS}
theorem pxJ_0 {K : Nat → Nat} {F t d k b : Nat} {r : Nat × Nat × List Op} (ht : t = 1 ∨ t = 3 ∨ t = 7 ∨ t = 9) (h : px K F t d k 0 b = some r) : r.2.1 = 0 := by
  cases F with
  | zero => cases h
  | succ F =>
    have hJ : ∀ w op t u, pxJ K (px K F) w op t u d k 0 = some r → r.2.1 = 0 := fun w op t u h => by
      unfold pxJ at h
      split at h
      · obtain ⟨r1, h1, h⟩ := Option.bind_eq_some_iff.mp h
        obtain ⟨r2, h2, h⟩ := Option.bind_eq_some_iff.mp h
        injection h with h
        rw [← h]
      · injection h with h
        rw [← h]
    have hO : ∀ op t u, pxO K (px K F) op t u d k 0 = some r → r.2.1 = 0 := fun op t u h => by
      unfold pxO at h
      split at h
      · obtain ⟨r1, h1, h⟩ := Option.bind_eq_some_iff.mp h
        obtain ⟨r2, h2, h⟩ := Option.bind_eq_some_iff.mp h
        injection h with h
        rw [← h]
      · injection h with h
        rw [← h]
    rcases ht with rfl | rfl | rfl | rfl
    · exact hJ _ _ _ _ h
    · exact hJ _ _ _ _ h
    · exact hO _ _ _ h
    · exact hO _ _ _ h
theorem eOr_stopJ {d dp t tk k : Nat} {K : Nat → Nat} {S : cS} {lv : sm_L} (hlv : lv1 K k dp t lv) (htk : sI S 3105 = nI tk) (htk2 : tk < 64) (hn : tk ≠ 58) (ht : t < 3000) : Bod (d + 8) 57 7 lv [] S none S := by
  rcases hlv with rfl | ⟨z, rfl⟩
  · exact eOr_stop htk htk2 hn ht
  · exact eOr_stop2 htk htk2 hn ht
theorem eOr_turnJ {d dp t a b k : Nat} {K : Nat → Nat} {S S1 S3 Sf : cS} {v : Option Value} {lv : sm_L} (hlv : lv1 K k dp t lv) (htk : sI S 3105 = nI 58) (ht : t < 3000) (hP : Ans (d + 8) 75 [.ref 31, .int (nI 58)] S none S1) (ha : sI S1 2307 = nI a) (haM : a + 2 ≤ 40960) (hC : Ans (d + 8) 58 [.ref 44, .int (nI dp)] (wI 2307 (nI (a + 2)) (wA 24 (a + 1) (nI 0) (wA 24 a (nI 7) S1))) none S3) (hb : sI S3 2307 = nI b) (hab : a + 2 ≤ b) (hbM : b ≤ 40960) (hB : Bod (d + 8) 57 7 [(2, .int (nI (t + 1))), (3, .int (nI a)), (0, .ref 44), (1, .int (nI dp))] [] (wI 4403 (nI 0) (wA 24 (a + 1) ((nI b)) S3)) v Sf) : Bod (d + 8) 57 7 lv [] S v Sf := by
  rcases hlv with rfl | ⟨z, rfl⟩
  · exact eOr_turn htk ht hP ha haM hC hb hab hbM hB
  · exact eOr_turn2 htk ht hP ha haM hC hb hab hbM hB
theorem EJ1_s (hX : pX A n S0 z0) (h0 : qK (by1 A) n 0 ≠ 1) (hA : EA A n S0 z0 fb F) (hJ : EJ A n S0 z0 fb F 1 57 7 9 lv1) : EJ A n S0 z0 fb (F + 1) 1 57 7 9 lv1 := by
  intro d k S a c f cur D M Mc Mf g lv tt hlv hd hm hP hS hR hg htg htt hD
  obtain ⟨N, hBR, r1, r2, r3, r4, r5, r6⟩ := hR
  have hBa := BR_at hBR
  obtain ⟨D', rfl⟩ : ∃ D', D = D' + 8 := ⟨D - 8, by omega⟩
  have hq := q_lt (by1 A) n k
  have hn := hX.1
  have ek : rkp 2 = 9 := rfl
  show ∃ S1, _ ∧ eO A n S0 z0 fb S a c f cur k M Mc Mf (pxJ (qK (by1 A) n) (px (qK (by1 A) n) F) 58 7 2 1 d k g) S1
  unfold pxJ
  by_cases hk : qK (by1 A) n k = 58
  · rw [if_pos hk]
    obtain ⟨g1, g2, g3, g4, g5, g6⟩ := q_gt (β := by1 A) (n := n) (k := k) (by omega)
    have hB1 := BR_1 (N := N) (k := k) (by assumption) (by omega) (by omega)
    have hb1 := BR_at hB1
    obtain ⟨S1, p1, p2, p3, p4⟩ := pass_T (d := D' + 1) hX hP hk (by omega)
    have hS1 := eS_lx p3 hS
    obtain ⟨hP2, hS2⟩ := jmp_pre (op := 7) p2 hS1
    have htk : sI S 3105 = nI 58 := by rw [cP_5 hP, hk]
    obtain ⟨S3, q1, q2⟩ := hA 2 (by decide) d (k + 1) _ (a + 2) c f cur (D' + 8) M Mc Mf hd (by omega) hP2 hS2 ⟨N, by assumption, by omega, r2, by omega, r4, by omega, r6⟩ (by omega)
    cases hr : px (qK (by1 A) n) F 2 d (k + 1) 0 0 with
    | none =>
      have hb := q2.1 hr
      rw [g5] at hb
      obtain ⟨b, c1, f1, e1, e2, e3, e4⟩ := hb.2.1
      have hb2 := jmp_bad (b := b) p3 p4 hb
      exact ⟨_, eOr_turnJ hlv htk (by omega) p1 hS1.1 (by omega) q1 e1.1 e2 (by omega) (eOr_stop2 (tk := 0) (eBD_5 hb2) (by omega) (by omega) (by omega)), eO_none rfl hb2⟩
    | some r1 =>
      have hok := q2.2 r1 hr
      obtain ⟨u1, u2, u3, u4, u5⟩ := (px_G (qK (by1 A) n) F).1 2 (by decide) _ _ _ _ _ hr
      have hB2 := BR_px (N := N) (by assumption) hr (by omega) (by omega) u2
      have hb2 := BR_at hB2
      obtain ⟨v1, v2, v3, v4⟩ := q_run (by omega) u2
      have hq1 := q_lt (by1 A) n r1.1
      have hfx := fxN_le cur r1.2.2
      have w1 : wC (jmp (qK (by1 A) n) 7 r1.2.2 :: r1.2.2) = 2 + wC r1.2.2 := rfl
      have w2 : cnN (jmp (qK (by1 A) n) 7 r1.2.2 :: r1.2.2) = cnN r1.2.2 := Nat.zero_add _
      have w3 : fxN cur (jmp (qK (by1 A) n) 7 r1.2.2 :: r1.2.2) = fxN cur r1.2.2 := by
        unfold fxN
        rw [show nmN (jmp (qK (by1 A) n) 7 r1.2.2 :: r1.2.2) = nmN r1.2.2 from Nat.zero_add _]
      have hj := jmp_ok (op := 7) (by omega) p3 p4 (by omega) hok
      obtain ⟨S5, s1, s2⟩ := hJ d r1.1 _ (a + wC (jmp (qK (by1 A) n) 7 r1.2.2 :: r1.2.2)) (c + cnN (jmp (qK (by1 A) n) 7 r1.2.2 :: r1.2.2)) (f + fxN cur (jmp (qK (by1 A) n) 7 r1.2.2 :: r1.2.2)) cur (D' + 8) M Mc Mf 0 _ (tt + 1) (Or.inr ⟨nI a, rfl⟩) hd (by omega) hj.1 hj.2.1 ⟨N, by assumption, by omega, r2, by omega, r4, by omega, r6⟩ hj.2.2.2.2.2.1 (fun h => absurd rfl h) (by omega) hD
      have hb := hok.2.1.1
      refine ⟨S5, eOr_turnJ hlv htk (by omega) p1 hS1.1 (by omega) q1 hb (by omega) (by omega) s1, ?_⟩
      cases hr2 : px (qK (by1 A) n) F 1 d r1.1 0 0 with
      | none =>
        refine eO_none (by show (px _ F 1 d r1.1 0 0).bind _ = none; rw [hr2]; rfl) (eBD_app hj ?_)
        have h9 := s2.1 hr2
        rw [v2, g5] at h9
        exact h9
      | some r2' =>
        obtain ⟨y1, y2, y3, y4, y5⟩ := (px_G (qK (by1 A) n) F).2.1 1 (by decide) _ _ _ _ _ hr2
        have hB3 := BR_px (N := N) (by assumption) hr2 (by omega) (by omega) y2
        have hb3 := BR_at hB3
        obtain ⟨x1, x2, x3, x4⟩ := q_run (by omega) y2
        have hq2 := q_lt (by1 A) n r2'.1
        refine eO_some (x := (r2'.1, 0, jmp (qK (by1 A) n) 7 r1.2.2 :: (r1.2.2 ++ r2'.2.2))) (by show (px _ F 1 d r1.1 0 0).bind _ = _; rw [hr2]; rfl) ?_
        have h9 := eOK_app hj (s2.2 r2' hr2) (by omega)
        have hg0 : r2'.2.1 = 0 := pxJ_0 (by omega) hr2
        rw [hg0] at h9
        exact h9
  · rw [if_neg hk]
    have hk64 := (q_lt (by1 A) n k).2.2.2.2
    have htt3 : tt < 3000 := by omega
    exact ⟨S, eOr_stopJ hlv (cP_5 hP) hk64 hk htt3, eO_some rfl (eOK_nil hP hS (by omega) hg htg)⟩
theorem eAnd_stopJ {d dp t tk k : Nat} {K : Nat → Nat} {S : cS} {lv : sm_L} (hlv : lv1 K k dp t lv) (htk : sI S 3105 = nI tk) (htk2 : tk < 64) (hn : tk ≠ 57) (ht : t < 3000) : Bod (d + 8) 58 7 lv [] S none S := by
  rcases hlv with rfl | ⟨z, rfl⟩
  · exact eAnd_stop htk htk2 hn ht
  · exact eAnd_stop2 htk htk2 hn ht
theorem eAnd_turnJ {d dp t a b k : Nat} {K : Nat → Nat} {S S1 S3 Sf : cS} {v : Option Value} {lv : sm_L} (hlv : lv1 K k dp t lv) (htk : sI S 3105 = nI 57) (ht : t < 3000) (hP : Ans (d + 8) 75 [.ref 31, .int (nI 57)] S none S1) (ha : sI S1 2307 = nI a) (haM : a + 2 ≤ 40960) (hC : Ans (d + 8) 59 [.ref 44, .int (nI dp)] (wI 2307 (nI (a + 2)) (wA 24 (a + 1) (nI 0) (wA 24 a (nI 6) S1))) none S3) (hb : sI S3 2307 = nI b) (hab : a + 2 ≤ b) (hbM : b ≤ 40960) (hB : Bod (d + 8) 58 7 [(2, .int (nI (t + 1))), (3, .int (nI a)), (0, .ref 44), (1, .int (nI dp))] [] (wI 4403 (nI 0) (wA 24 (a + 1) ((nI b)) S3)) v Sf) : Bod (d + 8) 58 7 lv [] S v Sf := by
  rcases hlv with rfl | ⟨z, rfl⟩
  · exact eAnd_turn htk ht hP ha haM hC hb hab hbM hB
  · exact eAnd_turn2 htk ht hP ha haM hC hb hab hbM hB
theorem EJ3_s (hX : pX A n S0 z0) (h0 : qK (by1 A) n 0 ≠ 1) (hA : EA A n S0 z0 fb F) (hJ : EJ A n S0 z0 fb F 3 58 7 8 lv1) : EJ A n S0 z0 fb (F + 1) 3 58 7 8 lv1 := by
  intro d k S a c f cur D M Mc Mf g lv tt hlv hd hm hP hS hR hg htg htt hD
  obtain ⟨N, hBR, r1, r2, r3, r4, r5, r6⟩ := hR
  have hBa := BR_at hBR
  obtain ⟨D', rfl⟩ : ∃ D', D = D' + 8 := ⟨D - 8, by omega⟩
  have hq := q_lt (by1 A) n k
  have hn := hX.1
  have ek : rkp 4 = 8 := rfl
  show ∃ S1, _ ∧ eO A n S0 z0 fb S a c f cur k M Mc Mf (pxJ (qK (by1 A) n) (px (qK (by1 A) n) F) 57 6 4 3 d k g) S1
  unfold pxJ
  by_cases hk : qK (by1 A) n k = 57
  · rw [if_pos hk]
    obtain ⟨g1, g2, g3, g4, g5, g6⟩ := q_gt (β := by1 A) (n := n) (k := k) (by omega)
    have hB4 := BR_1 (N := N) (k := k) (by assumption) (by omega) (by omega)
    have hb4 := BR_at hB4
    obtain ⟨S1, p1, p2, p3, p4⟩ := pass_T (d := D' + 1) hX hP hk (by omega)
    have hS1 := eS_lx p3 hS
    obtain ⟨hP2, hS2⟩ := jmp_pre (op := 6) p2 hS1
    have htk : sI S 3105 = nI 57 := by rw [cP_5 hP, hk]
    obtain ⟨S3, q1, q2⟩ := hA 4 (by decide) d (k + 1) _ (a + 2) c f cur (D' + 8) M Mc Mf hd (by omega) hP2 hS2 ⟨N, by assumption, by omega, r2, by omega, r4, by omega, r6⟩ (by omega)
    cases hr : px (qK (by1 A) n) F 4 d (k + 1) 0 0 with
    | none =>
      have hb := q2.1 hr
      rw [g5] at hb
      obtain ⟨b, c1, f1, e1, e2, e3, e4⟩ := hb.2.1
      have hb2 := jmp_bad (b := b) p3 p4 hb
      exact ⟨_, eAnd_turnJ hlv htk (by omega) p1 hS1.1 (by omega) q1 e1.1 e2 (by omega) (eAnd_stop2 (tk := 0) (eBD_5 hb2) (by omega) (by omega) (by omega)), eO_none rfl hb2⟩
    | some r1 =>
      have hok := q2.2 r1 hr
      obtain ⟨u1, u2, u3, u4, u5⟩ := (px_G (qK (by1 A) n) F).1 4 (by decide) _ _ _ _ _ hr
      have hB5 := BR_px (N := N) (by assumption) hr (by omega) (by omega) u2
      have hb5 := BR_at hB5
      obtain ⟨v1, v2, v3, v4⟩ := q_run (by omega) u2
      have hq1 := q_lt (by1 A) n r1.1
      have hfx := fxN_le cur r1.2.2
      have w1 : wC (jmp (qK (by1 A) n) 6 r1.2.2 :: r1.2.2) = 2 + wC r1.2.2 := rfl
      have w2 : cnN (jmp (qK (by1 A) n) 6 r1.2.2 :: r1.2.2) = cnN r1.2.2 := Nat.zero_add _
      have w3 : fxN cur (jmp (qK (by1 A) n) 6 r1.2.2 :: r1.2.2) = fxN cur r1.2.2 := by
        unfold fxN
        rw [show nmN (jmp (qK (by1 A) n) 6 r1.2.2 :: r1.2.2) = nmN r1.2.2 from Nat.zero_add _]
      have hj := jmp_ok (op := 6) (by omega) p3 p4 (by omega) hok
      obtain ⟨S5, s1, s2⟩ := hJ d r1.1 _ (a + wC (jmp (qK (by1 A) n) 6 r1.2.2 :: r1.2.2)) (c + cnN (jmp (qK (by1 A) n) 6 r1.2.2 :: r1.2.2)) (f + fxN cur (jmp (qK (by1 A) n) 6 r1.2.2 :: r1.2.2)) cur (D' + 8) M Mc Mf 0 _ (tt + 1) (Or.inr ⟨nI a, rfl⟩) hd (by omega) hj.1 hj.2.1 ⟨N, by assumption, by omega, r2, by omega, r4, by omega, r6⟩ hj.2.2.2.2.2.1 (fun h => absurd rfl h) (by omega) hD
      have hb := hok.2.1.1
      refine ⟨S5, eAnd_turnJ hlv htk (by omega) p1 hS1.1 (by omega) q1 hb (by omega) (by omega) s1, ?_⟩
      cases hr2 : px (qK (by1 A) n) F 3 d r1.1 0 0 with
      | none =>
        refine eO_none (by show (px _ F 3 d r1.1 0 0).bind _ = none; rw [hr2]; rfl) (eBD_app hj ?_)
        have h9 := s2.1 hr2
        rw [v2, g5] at h9
        exact h9
      | some r2' =>
        obtain ⟨y1, y2, y3, y4, y5⟩ := (px_G (qK (by1 A) n) F).2.1 3 (by decide) _ _ _ _ _ hr2
        have hB6 := BR_px (N := N) (by assumption) hr2 (by omega) (by omega) y2
        have hb6 := BR_at hB6
        obtain ⟨x1, x2, x3, x4⟩ := q_run (by omega) y2
        have hq2 := q_lt (by1 A) n r2'.1
        refine eO_some (x := (r2'.1, 0, jmp (qK (by1 A) n) 6 r1.2.2 :: (r1.2.2 ++ r2'.2.2))) (by show (px _ F 3 d r1.1 0 0).bind _ = _; rw [hr2]; rfl) ?_
        have h9 := eOK_app hj (s2.2 r2' hr2) (by omega)
        have hg0 : r2'.2.1 = 0 := pxJ_0 (by omega) hr2
        rw [hg0] at h9
        exact h9
  · rw [if_neg hk]
    have hk64 := (q_lt (by1 A) n k).2.2.2.2
    have htt3 : tt < 3000 := by omega
    exact ⟨S, eAnd_stopJ hlv (cP_5 hP) hk64 hk htt3, eO_some rfl (eOK_nil hP hS (by omega) hg htg)⟩
/-- behind a fault one word is put -/
theorem eBD_w1 {a c f cur l M Mc Mf b x : Nat} {S S1 : cS} (h : eBD A n S0 z0 S a c f cur l M Mc Mf S1) (hb : sI S1 2307 = nI b) (hM : M + 1 ≤ 2 ^ 30) (hb2 : b ≤ 2 ^ 30) : eBD A n S0 z0 S a c f cur l (M + 1) Mc Mf (wI 4403 (nI 0) (wI 2307 (nI (b + 1)) (wA 24 b (nI x) S1))) := by
  have hab : a ≤ b := by
    obtain ⟨b1, ⟨y, _, _, b2, b3, b4, _⟩, _⟩ := h
    obtain rfl : y = b := nI_inj (by omega) (by omega) (b2.1.symm.trans hb)
    exact b3
  exact eBD_w (w := 1) h hb hM hb2 (FrT_wI (by decide) (FrT_wI (by decide) (FrT_wA (by decide) (FrT.refl _ _ _ _ _)))) (fun i hi => by show upd (sA S1 24) b _ i = _; exact if_neg (by omega)) (by simp only [rI, rJI, rAI, rLI, rIJ, rIA, rJA, rLA, rIL, reduceIte, Nat.reduceEqDiff]) (Or.inl (rIe _ _ _))
theorem eBD_w2 {a c f cur l M Mc Mf b x y : Nat} {S S1 : cS} (h : eBD A n S0 z0 S a c f cur l M Mc Mf S1) (hb : sI S1 2307 = nI b) (hM : M + 2 ≤ 2 ^ 30) (hb2 : b ≤ 2 ^ 30) : eBD A n S0 z0 S a c f cur l (M + 2) Mc Mf (wI 4403 (nI 0) (wI 2307 (nI (b + 2)) (wA 24 (b + 1) (nI y) (wA 24 b (nI x) S1)))) := by
  have hab : a ≤ b := by
    obtain ⟨b1, ⟨y, _, _, b2, b3, b4, _⟩, _⟩ := h
    obtain rfl : y = b := nI_inj (by omega) (by omega) (b2.1.symm.trans hb)
    exact b3
  refine eBD_w (w := 2) h hb hM hb2 (FrT_wI (by decide) (FrT_wI (by decide) (FrT_wA (by decide) (FrT_wA (by decide) (FrT.refl _ _ _ _ _))))) (fun i hi => ?_) (by simp only [rI, rJI, rAI, rLI, rIJ, rIA, rJA, rLA, rIL, reduceIte, Nat.reduceEqDiff]) (Or.inl (rIe _ _ _))
  show upd (upd (sA S1 24) b _) (b + 1) _ i = _
  rw [upd_at, upd_at, if_neg (by omega), if_neg (by omega)]
theorem eSum_stopJ {d dp t tk k : Nat} {K : Nat → Nat} {S : cS} {lv : sm_L} (hlv : lv1 K k dp t lv) (htk : sI S 3105 = nI tk) (htk2 : tk < 64) (hn : ¬ sumO tk ≠ 0) (ht : t < 3000) : Bod (d + 8) 61 7 lv [] S none S := by
  have h1 : tk ≠ 15 := fun e => hn (by subst e; decide)
  have h2 : tk ≠ 16 := fun e => hn (by subst e; decide)
  rcases hlv with rfl | ⟨z, rfl⟩
  · exact eSum_stop htk htk2 h1 h2 ht
  · exact eSum_stop2 htk htk2 h1 h2 ht
theorem eSum_turnJ {d dp t a k tk : Nat} {K : Nat → Nat} {S S1 S2 Sf : cS} {v : Option Value} {lv : sm_L} (hlv : lv1 K k dp t lv) (htk : sI S 3105 = nI tk) (hop : sumO tk ≠ 0) (ht : t < 3000) (hR : Ans (d + 8) 40 [.ref 31] S none S1) (hC : Ans (d + 8) 62 [.ref 44, .int (nI dp)] S1 none S2) (ha : sI S2 2307 = nI a) (haM : a + 1 ≤ 40960) (hB : Bod (d + 8) 61 7 [(2, .int (nI (t + 1))), (3, .int (nI (sumO tk))), (0, .ref 44), (1, .int (nI dp))] [] (wI 4403 (nI 0) (wI 2307 (nI (a + 1)) (wA 24 a (nI (sumO tk)) S2))) v Sf) : Bod (d + 8) 61 7 lv [] S v Sf := by
  have h1 : tk = 15 ∨ tk = 16 := by
    unfold sumO at hop
    split at hop
    · exact Or.inl (by assumption)
    · split at hop
      · exact Or.inr (by assumption)
      · exact absurd rfl hop
  rcases h1 with rfl | rfl
  · rcases hlv with rfl | ⟨z, rfl⟩
    · exact eSum_15 htk ht hR hC ha haM hB
    · exact eSum_152 htk ht hR hC ha haM hB
  · rcases hlv with rfl | ⟨z, rfl⟩
    · exact eSum_16 htk ht hR hC ha haM hB
    · exact eSum_162 htk ht hR hC ha haM hB
theorem EJ7_s (hX : pX A n S0 z0) (h0 : qK (by1 A) n 0 ≠ 1) (hA : EA A n S0 z0 fb F) (hJ : EJ A n S0 z0 fb F 7 61 7 5 lv1) : EJ A n S0 z0 fb (F + 1) 7 61 7 5 lv1 := by
  intro d k S a c f cur D M Mc Mf g lv tt hlv hd hm hP hS hR hg htg htt hD
  obtain ⟨N, hBR, r1, r2, r3, r4, r5, r6⟩ := hR
  have hBa := BR_at hBR
  obtain ⟨D', rfl⟩ : ∃ D', D = D' + 8 := ⟨D - 8, by omega⟩
  have hq := q_lt (by1 A) n k
  have hn := hX.1
  have ek : rkp 8 = 5 := rfl
  show ∃ S1, _ ∧ eO A n S0 z0 fb S a c f cur k M Mc Mf (pxO (qK (by1 A) n) (px (qK (by1 A) n) F) sumO 8 7 d k g) S1
  unfold pxO
  by_cases hk : sumO (qK (by1 A) n k) ≠ 0
  · rw [if_pos hk]
    obtain ⟨k3, kop⟩ := sumO_ok hk
    obtain ⟨g1, g2, g3, g4, g5, g6⟩ := q_gt (β := by1 A) (n := n) (k := k) k3
    have hB7 := BR_1 (N := N) (k := k) (by assumption) k3 (fun e => hk (by rw [e]; decide))
    have hb7 := BR_at hB7
    obtain ⟨S1, p1, p2, p3, p4⟩ := read_T (d := D' + 3) hX hP (by omega) (by omega) (by omega)
    have hS1 := eS_lx p3 hS
    obtain ⟨S3, q1, q2⟩ := hA 8 (by decide) d (k + 1) S1 a c f cur (D' + 8) (M - 2) Mc Mf hd (by omega) p2 hS1 ⟨N, by assumption, by omega, by omega, by omega, r4, by omega, r6⟩ (by omega)
    cases hr : px (qK (by1 A) n) F 8 d (k + 1) 0 0 with
    | none =>
      have hb := eBD_pre p3 p4 (q2.1 hr)
      rw [g5] at hb
      obtain ⟨b, c1, f1, e1, e2, e3, e4⟩ := hb.2.1
      have hb2 := eBD_w1 hb e1.1 (x := sumO (qK (by1 A) n k)) (by omega) (by omega)
      exact ⟨_, eSum_turnJ hlv (cP_5 hP) hk (by omega) p1 q1 e1.1 (by omega) (eSum_stop2 (tk := 0) (eBD_5 hb2) (by omega) (by omega) (by omega) (by omega)), eO_none rfl (eBD_le hb2 (by omega) (Nat.le_refl _) (Nat.le_refl _))⟩
    | some r1 =>
      have hok := eOK_pre p3 p4 (q2.2 r1 hr)
      obtain ⟨u1, u2, u3, u4, u5⟩ := (px_G (qK (by1 A) n) F).1 8 (by decide) _ _ _ _ _ hr
      have hB8 := BR_px (N := N) (by assumption) hr (by omega) (by omega) u2
      have hb8 := BR_at hB8
      obtain ⟨v1, v2, v3, v4⟩ := q_run (by omega) u2
      have hq1 := q_lt (by1 A) n r1.1
      have hfx := fxN_le cur r1.2.2
      have hop := op1 (fb := fb) (p := [qK (by1 A) n k]) hok.1 hok.2.1 (by omega) (t := sumO (qK (by1 A) n k)) (by omega)
      have hj := eOK_app hok hop (by rw [show cnN [(sumO (qK (by1 A) n k), [qK (by1 A) n k], 0, 0)] = 0 from by show cnO _ + 0 = 0; rw [cnO_op (by omega)]]; omega)
      have w1 : wC (r1.2.2 ++ [(sumO (qK (by1 A) n k), [qK (by1 A) n k], 0, 0)]) = wC r1.2.2 + 1 := by rw [wC_app]; show _ + (lC _ + 0) = _; rw [lC_op (by omega)]
      have w2 : cnN (r1.2.2 ++ [(sumO (qK (by1 A) n k), [qK (by1 A) n k], 0, 0)]) = cnN r1.2.2 := by rw [cnN_app]; show _ + (cnO _ + 0) = _; rw [cnO_op (by omega)]; omega
      have w3 : fxN cur (r1.2.2 ++ [(sumO (qK (by1 A) n k), [qK (by1 A) n k], 0, 0)]) = fxN cur r1.2.2 := by rw [fxN_app, fxN_0 (nmO_op (by omega))]; omega
      obtain ⟨S5, s1, s2⟩ := hJ d r1.1 _ _ _ _ cur (D' + 8) M Mc Mf 0 _ (tt + 1) (Or.inr ⟨nI (sumO (qK (by1 A) n k)), rfl⟩) hd (by omega) hj.1 hj.2.1 ⟨N, by assumption, by rw [w1]; omega, r2, by rw [w2]; omega, r4, by rw [w3]; omega, r6⟩ hj.2.2.2.2.2.1 (fun h => absurd rfl h) (by omega) hD
      have hb := hok.2.1.1
      refine ⟨S5, eSum_turnJ hlv (cP_5 hP) hk (by omega) p1 q1 hb (by omega) s1, ?_⟩
      cases hr2 : px (qK (by1 A) n) F 7 d r1.1 0 0 with
      | none =>
        refine eO_none (by show (px _ F 7 d r1.1 0 0).bind _ = none; rw [hr2]; rfl) (eBD_app hj ?_)
        have h9 := s2.1 hr2
        rw [v2, g5] at h9
        exact h9
      | some r2' =>
        obtain ⟨y1, y2, y3, y4, y5⟩ := (px_G (qK (by1 A) n) F).2.1 7 (by decide) _ _ _ _ _ hr2
        have hB9 := BR_px (N := N) (by assumption) hr2 (by omega) (by omega) y2
        have hb9 := BR_at hB9
        obtain ⟨x1, x2, x3, x4⟩ := q_run (by omega) y2
        have hq2 := q_lt (by1 A) n r2'.1
        refine eO_some (x := (r2'.1, 0, r1.2.2 ++ (sumO (qK (by1 A) n k), [qK (by1 A) n k], 0, 0) :: r2'.2.2)) (by show (px _ F 7 d r1.1 0 0).bind _ = _; rw [hr2]; rfl) ?_
        have h9 := eOK_app hj (s2.2 r2' hr2) (by rw [w2]; omega)
        have hg0 : r2'.2.1 = 0 := pxJ_0 (by omega) hr2
        rw [hg0, List.append_assoc] at h9
        exact h9
  · rw [if_neg hk]
    have hk64 := (q_lt (by1 A) n k).2.2.2.2
    have htt3 : tt < 3000 := by omega
    exact ⟨S, eSum_stopJ hlv (cP_5 hP) hk64 hk htt3, eO_some rfl (eOK_nil hP hS (by omega) hg htg)⟩
theorem EJ9_s (hX : pX A n S0 z0) (h0 : qK (by1 A) n 0 ≠ 1) (hA : EA A n S0 z0 fb F) (hJ : EJ A n S0 z0 fb F 9 62 18 4 lv9) : EJ A n S0 z0 fb (F + 1) 9 62 18 4 lv9 := by
  intro d k S a c f cur D M Mc Mf g lv tt hlv hd hm hP hS hR hg htg htt hD
  obtain ⟨N, hBR, r1, r2, r3, r4, r5, r6⟩ := hR
  have hBa := BR_at hBR
  obtain ⟨D', rfl⟩ : ∃ D', D = D' + 8 := ⟨D - 8, by omega⟩
  have hq := q_lt (by1 A) n k
  have hn := hX.1
  have ek : rkp 10 = 4 := rfl
  show ∃ S1, _ ∧ eO A n S0 z0 fb S a c f cur k M Mc Mf (pxO (qK (by1 A) n) (px (qK (by1 A) n) F) trmO 10 9 d k g) S1
  unfold pxO
  by_cases hk : trmO (qK (by1 A) n k) ≠ 0
  · rw [if_pos hk]
    obtain ⟨k3, kop⟩ := trmO_ok hk
    obtain ⟨g1, g2, g3, g4, g5, g6⟩ := q_gt (β := by1 A) (n := n) (k := k) k3
    have hB10 := BR_1 (N := N) (k := k) (by assumption) k3 (fun e => hk (by rw [e]; decide))
    have hb10 := BR_at hB10
    obtain ⟨S1, p1, p2, p3, p4⟩ := read_T (d := D' + 3) hX hP (by omega) (by omega) (by omega)
    have hS1 := eS_lx p3 hS
    obtain ⟨S3, q1, q2⟩ := hA 10 (by decide) d (k + 1) S1 a c f cur (D' + 8) (M - 2) Mc Mf hd (by omega) p2 hS1 ⟨N, by assumption, by omega, by omega, by omega, r4, by omega, r6⟩ (by omega)
    cases hr : px (qK (by1 A) n) F 10 d (k + 1) 0 0 with
    | none =>
      have hb := eBD_pre p3 p4 (q2.1 hr)
      rw [g5] at hb
      obtain ⟨b, c1, f1, e1, e2, e3, e4⟩ := hb.2.1
      have hb2 := eBD_w1 hb e1.1 (x := trmO (qK (by1 A) n k)) (by omega) (by omega)
      exact ⟨_, by rw [hlv]; exact eTrm_turn (tk := 0) hk (by omega) (by omega) p1 q1 e1.1 (by omega) hb.1.1 (by omega) (eTrm_stop (op := trmO 0) rfl (by omega)), eO_none rfl (eBD_le hb2 (by omega) (Nat.le_refl _) (Nat.le_refl _))⟩
    | some r1 =>
      have hok := eOK_pre p3 p4 (q2.2 r1 hr)
      obtain ⟨u1, u2, u3, u4, u5⟩ := (px_G (qK (by1 A) n) F).1 10 (by decide) _ _ _ _ _ hr
      have hB11 := BR_px (N := N) (by assumption) hr (by omega) (by omega) u2
      have hb11 := BR_at hB11
      obtain ⟨v1, v2, v3, v4⟩ := q_run (by omega) u2
      have hq1 := q_lt (by1 A) n r1.1
      have hfx := fxN_le cur r1.2.2
      have hop := op1 (fb := fb) (p := [qK (by1 A) n k]) hok.1 hok.2.1 (by omega) (t := trmO (qK (by1 A) n k)) (by omega)
      have hj := eOK_app hok hop (by rw [show cnN [(trmO (qK (by1 A) n k), [qK (by1 A) n k], 0, 0)] = 0 from by show cnO _ + 0 = 0; rw [cnO_op (by omega)]]; omega)
      have w1 : wC (r1.2.2 ++ [(trmO (qK (by1 A) n k), [qK (by1 A) n k], 0, 0)]) = wC r1.2.2 + 1 := by rw [wC_app]; show _ + (lC _ + 0) = _; rw [lC_op (by omega)]
      have w2 : cnN (r1.2.2 ++ [(trmO (qK (by1 A) n k), [qK (by1 A) n k], 0, 0)]) = cnN r1.2.2 := by rw [cnN_app]; show _ + (cnO _ + 0) = _; rw [cnO_op (by omega)]; omega
      have w3 : fxN cur (r1.2.2 ++ [(trmO (qK (by1 A) n k), [qK (by1 A) n k], 0, 0)]) = fxN cur r1.2.2 := by rw [fxN_app, fxN_0 (nmO_op (by omega))]; omega
      obtain ⟨S5, s1, s2⟩ := hJ d r1.1 _ _ _ _ cur (D' + 8) M Mc Mf 0 _ (tt + 1) rfl hd (by omega) hj.1 hj.2.1 ⟨N, by assumption, by rw [w1]; omega, r2, by rw [w2]; omega, r4, by rw [w3]; omega, r6⟩ hj.2.2.2.2.2.1 (fun h => absurd rfl h) (by omega) hD
      have hb := hok.2.1.1
      refine ⟨S5, by rw [hlv]; exact eTrm_turn hk (by omega) (by omega) p1 q1 hb (by omega) (cP_5 hok.1) hq1.2.2.2.2 s1, ?_⟩
      cases hr2 : px (qK (by1 A) n) F 9 d r1.1 0 0 with
      | none =>
        refine eO_none (by show (px _ F 9 d r1.1 0 0).bind _ = none; rw [hr2]; rfl) (eBD_app hj ?_)
        have h9 := s2.1 hr2
        rw [v2, g5] at h9
        exact h9
      | some r2' =>
        obtain ⟨y1, y2, y3, y4, y5⟩ := (px_G (qK (by1 A) n) F).2.1 9 (by decide) _ _ _ _ _ hr2
        have hB12 := BR_px (N := N) (by assumption) hr2 (by omega) (by omega) y2
        have hb12 := BR_at hB12
        obtain ⟨x1, x2, x3, x4⟩ := q_run (by omega) y2
        have hq2 := q_lt (by1 A) n r2'.1
        refine eO_some (x := (r2'.1, 0, r1.2.2 ++ (trmO (qK (by1 A) n k), [qK (by1 A) n k], 0, 0) :: r2'.2.2)) (by show (px _ F 9 d r1.1 0 0).bind _ = _; rw [hr2]; rfl) ?_
        have h9 := eOK_app hj (s2.2 r2' hr2) (by rw [w2]; omega)
        have hg0 : r2'.2.1 = 0 := pxJ_0 (by omega) hr2
        rw [hg0, List.append_assoc] at h9
        exact h9
  · rw [if_neg hk]
    have hk64 := (q_lt (by1 A) n k).2.2.2.2
    have htt3 : tt < 3000 := by omega
    exact ⟨S, by rw [hlv]; exact eTrm_stop (by omega) htt3, eO_some rfl (eOK_nil hP hS (by omega) hg htg)⟩
end
