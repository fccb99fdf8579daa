/-! THE REFERENCE: fresh (364): a place, behind a settle if there is none -/
/-- with a new thing at k -/
def nwT (k : Nat) (S : cS) : cS := wQ 86 k (some (108 + (sS S).length)) (thI (108 + (sS S).length) (wK (13, 0) 13 (ntS S)))
/-- thing r (at t) begins anew, of a kind -/
def rsT (r t : Nat) (kd : Int32) (S : cS) : cS := wI (100 * t + 12) (Int32.ofInt (-1)) (wI (100 * t + 11) (Int32.ofInt (-1)) (wV (100 * t + 8) .null (wI (100 * t + 1) (nI 0) (wI (100 * t + 0) kd (wA 87 r (vp_nar .boolean (nI 1)) S)))))
section
variable {Q : Nat → Prop} {β e5 e6 : Nat → Nat} {F : Nat → Nat → Nat → Prop} {D : List Nat} {Sc Sr S W X : cS} {g0 g1 nn k r t p d u : Nat} {kd : Int32}
theorem kS8 (x : Nat × Nat) (u : Nat) (S : cS) : sS (wK x u S) = sS S ++ [x] := rfl
theorem kM8 (x : Nat × Nat) (u : Nat) (S : cS) : mu (wK x u S) = mu S + u := rfl
theorem kO8 (x : Nat × Nat) (u : Nat) (S : cS) : sI (wK x u S) = sI S ∧ sA (wK x u S) = sA S ∧ sL (wK x u S) = sL S ∧ sV (wK x u S) = sV S ∧ sQ (wK x u S) = sQ S ∧ sJ (wK x u S) = sJ S := ⟨rfl, rfl, rfl, rfl, rfl, rfl⟩
theorem vJ8 (a : Nat) (x : Value) (S : cS) : sJ (wV a x S) = sJ S := rfl
theorem iJ8 (a : Nat) (x : Int32) (S : cS) : sJ (wI a x S) = sJ S := rfl
theorem iA8 (a : Nat) (x : Int32) (S : cS) : sA (wI a x S) = sA S := rfl
theorem iL8 (a : Nat) (x : Int32) (S : cS) : sL (wI a x S) = sL S := rfl
theorem ntS_o (S : cS) : sS (ntS S) = sS S ∧ mu (ntS S) = mu S ∧ sA (ntS S) = sA S ∧ sL (ntS S) = sL S ∧ sQ (ntS S) = sQ S ∧ sJ (ntS S) = sJ S := by
  unfold ntS
  refine ⟨?_, ?_, ?_, ?_, ?_, ?_⟩
  · simp only [rVS, rIS]
  · simp only [mu_V, mu_I]
  · simp only [rVA, iA8]
  · simp only [rVL, iL8]
  · simp only [rVQ, rIQ]
  · simp only [vJ8, iJ8]
theorem thI_o (m : Nat) (T : cS) : sS (thI m T) = sS T ++ [(0, 4), (0, 4), (1, 4), (1, 4), (1, 4), (1, 4)] ∧ mu (thI m T) = mu T + 24 ∧ sI (thI m T) = sI T ∧ sQ (thI m T) = sQ T ∧ sJ (thI m T) = sJ T := by
  unfold thI
  refine ⟨?_, ?_, ?_, ?_, ?_⟩
  · rw [arL_s, arL_s, arL_s, arL_s, arI_s, arI_s]
    simp only [List.append_assoc, List.cons_append, List.nil_append]
  · rw [arL_u, arL_u, arL_u, arL_u, arI_u, arI_u]
  · rw [arL_i, arL_i, arL_i, arL_i, arI_i, arI_i]
  · rw [arL_q.1, arL_q.1, arL_q.1, arL_q.1, arI_q.1, arI_q.1]
  · rw [arL_q.2, arL_q.2, arL_q.2, arL_q.2, arI_q.2, arI_q.2]
theorem thI_V (m : Nat) (T : cS) (i : Nat) : sV (thI m T) i = if i = 100 * m + 7 then .ref (108 + (sS T).length + 5) else if i = 100 * m + 6 then .ref (108 + (sS T).length + 4) else if i = 100 * m + 5 then .ref (108 + (sS T).length + 3) else if i = 100 * m + 4 then .ref (108 + (sS T).length + 2) else if i = 100 * m + 3 then .ref (108 + (sS T).length + 1) else if i = 100 * m + 2 then .ref (108 + (sS T).length) else sV T i := by
  unfold thI
  rw [arL_v, arL_v, arL_v, arL_v, arI_v, arI_v, arL_n, arL_n, arL_n, arI_n, arI_n]
  simp only [Nat.add_assoc]
theorem thI_A (m : Nat) (T : cS) {a : Nat} (h : a < 108 + (sS T).length) : sA (thI m T) a = sA T a := by
  unfold thI
  rw [arL_A, arL_A, arL_A, arL_A, arI_a _ (by rw [arI_n]; omega), arI_a _ (by omega)]
theorem arI_e (m f n : Nat) (S : cS) : sA (arI m f n S) (108 + (sS S).length) = fun _ => 0 := if_pos rfl
theorem thI_A3 (m : Nat) (T : cS) (j : Nat) : sA (thI m T) (108 + (sS T).length + 1) j = 0 := by
  unfold thI
  rw [arL_A, arL_A, arL_A, arL_A]
  have e := arI_e m 3 4 (arI m 2 4 T)
  rw [arI_n] at e
  rw [show 108 + (sS T).length + 1 = 108 + ((sS T).length + 1) by omega, e]
theorem thI_L (m : Nat) (T : cS) {a : Nat} (h : a < 108 + (sS T).length) : sL (thI m T) a = sL T a := by
  unfold thI
  rw [arL_g _ (by rw [arL_n, arL_n, arL_n, arI_n, arI_n]; omega), arL_g _ (by rw [arL_n, arL_n, arI_n, arI_n]; omega), arL_g _ (by rw [arL_n, arI_n, arI_n]; omega), arL_g _ (by rw [arI_n, arI_n]; omega), arI_l, arI_l]
theorem nt_len (S : cS) : (sS (wK (13, 0) 13 (ntS S))).length = (sS S).length + 1 := by
  rw [kS8, (ntS_o S).1, List.length_append]; rfl
theorem nwT_S (k : Nat) (S : cS) : sS (nwT k S) = sS S ++ [(13, 0), (0, 4), (0, 4), (1, 4), (1, 4), (1, 4), (1, 4)] := by
  unfold nwT
  rw [rQS, (thI_o _ _).1, kS8, (ntS_o S).1, List.append_assoc]
  rfl
theorem nwT_m (k : Nat) (S : cS) : mu (nwT k S) = mu S + 37 := by
  unfold nwT
  rw [mu_Q, (thI_o _ _).2.1, kM8, (ntS_o S).2.1]
theorem qJ8 (a i : Nat) (x : Option Nat) (S : cS) : sJ (wQ a i x S) = sJ S := rfl
theorem nwT_J (k : Nat) (S : cS) : sJ (nwT k S) = sJ S := by
  unfold nwT
  rw [qJ8, (thI_o _ _).2.2.2.2, (kO8 _ _ _).2.2.2.2.2, (ntS_o S).2.2.2.2.2]
theorem nwT_I (k : Nat) (S : cS) {i : Nat} (h : i < 100 * (108 + (sS S).length)) : sI (nwT k S) i = sI S i := by
  unfold nwT
  rw [rQI, (thI_o _ _).2.2.1, (kO8 _ _ _).1, ntS_I, if_neg (by omega)]
theorem nwT_Q (k : Nat) (S : cS) (b : Nat) : sQ (nwT k S) b = if b = 86 then va_up (sQ S 86) k (some (108 + (sS S).length)) else sQ S b := by
  unfold nwT
  rw [rQ, (thI_o _ _).2.2.2.1, (kO8 _ _ _).2.2.2.2.1, (ntS_o S).2.2.2.2.1]
theorem nwT_V (k : Nat) (S : cS) (i : Nat) : sV (nwT k S) i = if i = 100 * (108 + (sS S).length) + 7 then .ref (108 + (sS S).length + 6) else if i = 100 * (108 + (sS S).length) + 6 then .ref (108 + (sS S).length + 5) else if i = 100 * (108 + (sS S).length) + 5 then .ref (108 + (sS S).length + 4) else if i = 100 * (108 + (sS S).length) + 4 then .ref (108 + (sS S).length + 3) else if i = 100 * (108 + (sS S).length) + 3 then .ref (108 + (sS S).length + 2) else if i = 100 * (108 + (sS S).length) + 2 then .ref (108 + (sS S).length + 1) else sV (ntS S) i := by
  unfold nwT
  rw [rQV, thI_V, nt_len, (kO8 _ _ _).2.2.2.1]
  simp only [Nat.add_assoc, Nat.reduceAdd, Nat.add_comm 1]
theorem nwT_V2 (k : Nat) (S : cS) {i : Nat} (h : i < 100 * (108 + (sS S).length)) : sV (nwT k S) i = sV S i := by
  rw [nwT_V, if_neg (by omega), if_neg (by omega), if_neg (by omega), if_neg (by omega), if_neg (by omega), if_neg (by omega), ntS_V S i h]
theorem nwT_A (k : Nat) (S : cS) {a : Nat} (h : a < 108 + (sS S).length) : sA (nwT k S) a = sA S a := by
  unfold nwT
  rw [rQA, thI_A _ _ (by rw [nt_len]; omega), (kO8 _ _ _).2.1, (ntS_o S).2.2.1]
theorem nwT_A3 (k : Nat) (S : cS) (j : Nat) : sA (nwT k S) (108 + (sS S).length + 2) j = 0 := by
  unfold nwT
  have e := thI_A3 (108 + (sS S).length) (wK (13, 0) 13 (ntS S)) j
  rw [nt_len] at e
  rw [rQA, show 108 + (sS S).length + 2 = 108 + ((sS S).length + 1) + 1 by omega]
  exact e
theorem nwT_L (k : Nat) (S : cS) {a : Nat} (h : a < 108 + (sS S).length) : sL (nwT k S) a = sL S a := by
  unfold nwT
  rw [rQL, thI_L _ _ (by rw [nt_len]; omega), (kO8 _ _ _).2.2.1, (ntS_o S).2.2.2.1]
theorem nwT_f (k : Nat) (S : cS) : ∀ f, 2 ≤ f → f ≤ 7 → sV (nwT k S) (100 * (108 + (sS S).length) + f) = .ref (108 + (sS S).length + (f - 1)) := fun f f2 f7 => by
  have c : f = 2 ∨ f = 3 ∨ f = 4 ∨ f = 5 ∨ f = 6 ∨ f = 7 := by omega
  rw [nwT_V]
  rcases c with rfl | rfl | rfl | rfl | rfl | rfl
  · rw [if_neg (by omega), if_neg (by omega), if_neg (by omega), if_neg (by omega), if_neg (by omega), if_pos rfl]
  · rw [if_neg (by omega), if_neg (by omega), if_neg (by omega), if_neg (by omega), if_pos rfl]
  · rw [if_neg (by omega), if_neg (by omega), if_neg (by omega), if_pos rfl]
  · rw [if_neg (by omega), if_neg (by omega), if_pos rfl]
  · rw [if_neg (by omega), if_pos rfl]
  · rw [if_pos rfl]
theorem nwT_ok (k : Nat) (S : cS) : tOk (nwT k S) k (108 + (sS S).length) := by
  have hk : ∀ i x, [(13, 0), (0, 4), (0, 4), (1, 4), (1, 4), (1, 4), (1, 4)][i]? = some x → (sS (nwT k S))[108 + (sS S).length + i - 108]? = some x := fun i x h => by
    rw [nwT_S, List.getElem?_append_right (by omega), ← h]
    congr 1
    omega
  have hv := nwT_f k S
  refine ⟨108 + (sS S).length + 1, 108 + (sS S).length + 2, 108 + (sS S).length + 3, 108 + (sS S).length + 4, 108 + (sS S).length + 5, 108 + (sS S).length + 6, 4, 4, ⟨?_, by omega, ⟨0, hk 0 _ rfl⟩, hv 2 (by omega) (by omega), hv 3 (by omega) (by omega), hv 4 (by omega) (by omega), hv 5 (by omega) (by omega), hv 6 (by omega) (by omega), hv 7 (by omega) (by omega), Or.inr ⟨by omega, hk 1 _ rfl⟩, Or.inr ⟨by omega, hk 2 _ rfl⟩, Or.inr ⟨by omega, hk 3 _ rfl⟩, Or.inr ⟨by omega, hk 4 _ rfl⟩, Or.inr ⟨by omega, hk 5 _ rfl⟩, Or.inr ⟨by omega, hk 6 _ rfl⟩, by omega, by omega, by omega, by omega, by omega, by omega, by omega, by omega⟩, ⟨by omega, by omega, by omega, by omega, by omega, by omega, by omega⟩, ⟨Or.inl rfl, Or.inl rfl⟩, fun j _ => ⟨0, by omega, nwT_A3 k S j⟩⟩
  rw [nwT_Q, if_pos rfl]
  exact if_pos rfl
theorem tOk_t (h : tOk S p t) : 108 ≤ t ∧ t < 108 + (sS S).length ∧ ∃ N, (sS S)[t - 108]? = some (13, N) := by
  obtain ⟨v2, v3, v4, v5, v6, v7, n, m, w, _⟩ := h
  obtain ⟨_, h2, ⟨N, h3⟩, _⟩ := w
  have := (List.getElem?_eq_some_iff.mp h3).1
  exact ⟨h2, by omega, N, h3⟩
/-- an old thing stays when a new one is made -/
theorem nwT_E (hp : tOk S p t) (hpk : p ≠ k) (hQ : Q 87 ∧ 87 < 108 + (sS S).length) : thE S (nwT k S) p := by
  obtain ⟨t1, t2, _⟩ := tOk_t hp
  obtain ⟨v2, v3, v4, v5, v6, v7, n, m, w, _⟩ := hp
  refine ⟨by rw [nwT_A k S hQ.2], ?_, ⟨_, nwT_S k S⟩, fun t' ht' => ?_⟩
  · rw [nwT_Q, if_pos rfl]
    exact if_neg hpk
  · have e : t' = t := by
      have := w.1
      rw [ht'] at this
      injection this
    subst e
    refine ⟨fun i hi => ⟨nwT_I k S (by omega), nwT_V2 k S (by omega)⟩, fun f v f2 f7 hv => ?_⟩
    have := tRef_v w f2 f7 hv
    exact ⟨nwT_A k S this.2.1, nwT_L k S this.2.1⟩
theorem nwT_o (hp : p ≠ k) : sQ (nwT k S) 86 p = sQ S 86 p := by
  rw [nwT_Q, if_pos rfl]
  exact if_neg hp
theorem nwT_k : sQ (nwT k S) 86 k = some (108 + (sS S).length) := by
  rw [nwT_Q, if_pos rfl]
  exact if_pos rfl
theorem nwT_Wf (hQ : tWf Q S) (hk : k < 1500) (hn : sQ S 86 k = none) : tWf Q (nwT k S) := by
  have h87 : Q 87 ∧ 87 < 108 + (sS S).length := ⟨hQ.2.2.2.2.1 87 (by omega), by omega⟩
  obtain ⟨q1, q2, q3, q4, q5, q6⟩ := hQ
  have hl : (sS (nwT k S)).length = (sS S).length + 7 := by rw [nwT_S, List.length_append]; rfl
  have hfk : ∀ (f v : Nat), 2 ≤ f → f ≤ 7 → sV (nwT k S) (100 * (108 + (sS S).length) + f) = .ref v → 108 + (sS S).length ≤ v := fun f v f2 f7 hv => by
    rw [nwT_f k S f f2 f7] at hv
    have hv : 108 + (sS S).length + (f - 1) = v := by injection hv
    omega
  have hold : ∀ (p t' f v : Nat), p < 1500 → sQ S 86 p = some t' → 2 ≤ f → f ≤ 7 → sV (nwT k S) (100 * t' + f) = .ref v → sV S (100 * t' + f) = .ref v ∧ v < 108 + (sS S).length := fun p t' f v hp ht' f2 f7 hv => by
    have ok := q1 p t' hp ht'
    obtain ⟨t1, t2, _⟩ := tOk_t ok
    rw [nwT_V2 k S (by omega)] at hv
    obtain ⟨w2, w3, w4, w5, w6, w7, n, m, w, _⟩ := ok
    exact ⟨hv, (tRef_v w f2 f7 hv).2.1⟩
  refine ⟨fun p t' hp ht' => ?_, fun p q t' hp hq h1 h2 => ?_, fun p q t1 t2 f f' v hp hq hpq h1 h2 f2 f7 f2' f7' hv hv' => ?_, fun p t' f v hp ht' f2 f7 hv => ?_, q5, fun a ha => by have := q6 a ha; omega⟩
  · by_cases c : p = k
    · rw [c, nwT_k] at ht'
      injection ht' with ht'
      rw [c, ← ht']
      exact nwT_ok k S
    · rw [nwT_o c] at ht'
      have ok := q1 p t' hp ht'
      have e := nwT_E ok c h87
      obtain ⟨w2, w3, w4, w5, w6, w7, n, m, w, wd, wl, wk⟩ := ok
      obtain ⟨e1, _, _, _, e3, _⟩ := tRef_E w e
      exact ⟨w2, w3, w4, w5, w6, w7, n, m, e1, wd, wl, fun j hj => by rw [e3]; exact wk j hj⟩
  · by_cases c : p = k
    · by_cases c2 : q = k
      · rw [c, c2]
      · rw [c, nwT_k] at h1
        rw [nwT_o c2] at h2
        injection h1 with h1
        have := tOk_t (q1 q t' hq h2)
        omega
    · rw [nwT_o c] at h1
      by_cases c2 : q = k
      · rw [c2, nwT_k] at h2
        injection h2 with h2
        have := tOk_t (q1 p t' hp h1)
        omega
      · rw [nwT_o c2] at h2
        exact q2 p q t' hp hq h1 h2
  · by_cases c : p = k
    · have c2 : q ≠ k := fun e => hpq (c.trans e.symm)
      rw [c, nwT_k] at h1
      rw [nwT_o c2] at h2
      injection h1 with h1
      rw [← h1] at hv
      have a := hfk f v f2 f7 hv
      have b := hold q t2 f' v hq h2 f2' f7' hv'
      omega
    · rw [nwT_o c] at h1
      have b := hold p t1 f v hp h1 f2 f7 hv
      by_cases c2 : q = k
      · rw [c2, nwT_k] at h2
        injection h2 with h2
        rw [← h2] at hv'
        have a := hfk f' v f2' f7' hv'
        omega
      · rw [nwT_o c2] at h2
        exact q3 p q t1 t2 f f' v hp hq hpq h1 h2 f2 f7 f2' f7' b.1 (hold q t2 f' v hq h2 f2' f7' hv').1
  · by_cases c : p = k
    · rw [c, nwT_k] at ht'
      injection ht' with ht'
      rw [← ht'] at hv
      have a := hfk f v f2 f7 hv
      intro hc
      have := q6 v hc
      omega
    · rw [nwT_o c] at ht'
      exact q4 p t' f v hp ht' f2 f7 (hold p t' f v hp ht' f2 f7 hv).1
theorem tc_E (hp : tOk S p t) (e : thE S W p) : tcC W p = tcC S p ∧ tcN W p = tcN S p := by
  obtain ⟨w2, w3, w4, w5, w6, w7, n, m, w, _⟩ := hp
  have w' := (tRef_E w e).1
  rw [(tc_ref w).1, (tc_ref w).2, (tc_ref w').1, (tc_ref w').2]
  exact ⟨rfl, rfl⟩
theorem nwT_hpF (hQ : tWf Q S) (hk : k < 1500) (hn : sQ S 86 k = none) : hpF Q S (nwT k S) := by
  have h87 : Q 87 ∧ 87 < 108 + (sS S).length := ⟨hQ.2.2.2.2.1 87 (by omega), by omega⟩
  have ho : ∀ i, i < 1500 → i ≠ k → tcC (nwT k S) i = tcC S i ∧ tcN (nwT k S) i = tcN S i := fun i hi hik => by
    cases h : sQ S 86 i with
    | none =>
      unfold tcC tcN
      rw [nwT_o hik, h]
      exact ⟨rfl, rfl⟩
    | some t =>
      have ok := hQ.1 i t hi h
      exact tc_E ok (nwT_E ok hik h87)
  have hk' : tcC S k = 0 ∧ tcN S k = 0 ∧ tcC (nwT k S) k = 37 ∧ tcN (nwT k S) k = 7 := by
    have e1 : tcC S k = 0 := by unfold tcC; rw [hn]
    have e2 : tcN S k = 0 := by unfold tcN; rw [hn]
    refine ⟨e1, e2, ?_⟩
    obtain ⟨w2, w3, w4, w5, w6, w7, n, m, w, _, ⟨l1, l2⟩, _⟩ := nwT_ok k S
    rw [(tc_ref w).1, (tc_ref w).2]
    have hw := w
    obtain ⟨x1, _, _, x4, x5, _, _, _, _, k1, k2, _, _, _, _, _, _, g2, g3, _⟩ := w
    have y1 := isK_at k1 g2
    have y2 := isK_at k2 g3
    have e4 : n = 4 := by
      rw [nwT_V, if_neg (by omega), if_neg (by omega), if_neg (by omega), if_neg (by omega), if_neg (by omega), if_pos rfl] at x4
      injection x4 with x4
      have := y1.2.2
      rw [← x4, nwT_S, List.getElem?_append_right (by omega), show 108 + (sS S).length + 1 - 108 - (sS S).length = 1 by omega] at this
      injection this with this
      injection this with _ this
      exact this.symm
    have e5 : m = 4 := by
      rw [nwT_V, if_neg (by omega), if_neg (by omega), if_neg (by omega), if_neg (by omega), if_pos rfl] at x5
      injection x5 with x5
      have := y2.2.2
      rw [← x5, nwT_S, List.getElem?_append_right (by omega), show 108 + (sS S).length + 2 - 108 - (sS S).length = 2 by omega] at this
      injection this with this
      injection this with _ this
      exact this.symm
    rw [e4, e5]
    exact ⟨rfl, rfl⟩
  obtain ⟨k1, k2, k3, k4⟩ := hk'
  refine ⟨nwT_J k S, ⟨fun b hb => by rw [nwT_Q, if_neg hb], fun p t hp => by
      by_cases c : p = k
      · rw [c, hn] at hp; cases hp
      · rw [nwT_o c]; exact hp⟩, ⟨_, nwT_S k S⟩, fun i hi _ => nwT_I k S (by omega), fun i hi => nwT_V2 k S (by omega), fun a ha _ => nwT_A k S (hQ.2.2.2.2.2 a ha), fun a ha => nwT_L k S (hQ.2.2.2.2.2 a ha), fun m z hm hs j hj => ?_, ?_, ?_⟩
  · have := (List.getElem?_eq_some_iff.mp hs).1
    exact ⟨nwT_I k S (by omega), nwT_V2 k S (by omega)⟩
  · have := sumN_up (f := tcC S) (g := tcC (nwT k S)) (k := k) (n := 1500) (fun i hi hik => (ho i hi hik).1) hk
    show _ + sumN (tcC S) 1500 = _ + sumN (tcC (nwT k S)) 1500
    rw [nwT_m]
    omega
  · have := sumN_up (f := tcN S) (g := tcN (nwT k S)) (k := k) (n := 1500) (fun i hi hik => (ho i hi hik).2) hk
    show _ + sumN (tcN S) 1500 = _ + sumN (tcN (nwT k S)) 1500
    rw [nwT_S, List.length_append]
    show (sS S).length + 7 + _ = _
    omega
theorem HR_nwN (h : HR Q β F D Sc S g0 g1 nn) (hk : k < 1500) (hn : sQ S 86 k = none) : HR Q β F D Sc (nwT k S) g0 g1 nn := by
  have hwf := nwT_Wf h.wf hk hn
  obtain ⟨a1, a2, a3, a4, a5, a6, a7, a8, a9, a10, a11⟩ := h
  have h87 : Q 87 ∧ 87 < 108 + (sS S).length := ⟨a9.2.2.2.2.1 87 (by omega), by omega⟩
  have e87 : sA (nwT k S) 87 = sA S 87 := nwT_A k S h87.2
  have hE : ∀ p, p < 1500 → sA S 87 p ≠ 0 → thE S (nwT k S) p := fun p hp h0 => by
    obtain ⟨N, q1, _⟩ := r_ok_t (a8 p hp h0).1
    exact nwT_E (a9.1 p _ hp q1) (fun c => by rw [c, hn] at q1; cases q1) h87
  have hx : ∀ p, p < 1500 → sA S 87 p ≠ 0 → r_ok (nwT k S) p ∧ rtgs (nwT k S) p = rtgs S p := fun p hp h0 => r_ok_E (a8 p hp h0).1 (hE p hp h0)
  have hN : tnE S (nwT k S) g0 g1 := ⟨nwT_A k S (a9.2.2.2.2.2 _ a10.1), nwT_A k S (a9.2.2.2.2.2 _ a10.2.2.1), nwT_L k S (by omega), nwT_L k S (by omega)⟩
  refine ⟨fun j hj => obR_r (a1 j hj) (hE _ (a1 j hj).1 (a1 j hj).2.1) hN, a2, fun p hp h0 => a3 p hp (by rw [← e87]; exact h0), a4, fun x hx' => ⟨(a5 x hx').1, by rw [e87]; exact (a5 x hx').2.1, (a5 x hx').2.2⟩, List.Pairwise.imp_of_mem (fun {a b} ha hb hab => ?_) a6, fun x hx' => ?_, fun p hp h0 => ?_, hwf, a10, fun p hp => by rw [e87]; exact a11 p hp⟩
  · rw [(hx b (a5 b hb).1 (a5 b hb).2.1).2]; exact hab
  · rw [(hx x (a5 x hx').1 (a5 x hx').2.1).2]; exact a7 x hx'
  · rw [e87] at h0
    obtain ⟨y1, y2⟩ := hx p hp h0
    exact ⟨y1, by rw [y2]; exact (a8 p hp h0).2⟩
end
