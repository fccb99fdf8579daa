/-! THE REFERENCE'S CODE: its words grow one at a time -/
def cw (S : cS) (m i : Nat) : Int32 := match sV S (100 * m + 0) with
  | .ref g => sA S g i
  | _ => 0
theorem cw_eq {S : cS} {m g i : Nat} (h : sV S (100 * m + 0) = .ref g) : cw S m i = sA S g i := by
  unfold cw
  rw [h]
/-- code m (made as number u) has k words in an array for N -/
def RCs (own : Nat → Nat × Nat) (m u k N : Nat) (S : cS) : Prop := 108 ≤ m ∧ (sS S)[m - 108]? = some (12, u) ∧ sI S (100 * m + 1) = nI k ∧ k ≤ N ∧ 64 ≤ N ∧ N ≤ 2 ^ 19 ∧ ∃ g, sV S (100 * m + 0) = .ref g ∧ isK S g 0 N ∧ (own g).1 = 26
/-- one more word -/
theorem cput_T {own : Nat → Nat × Nat} {d m u k N : Nat} {x : Int32} {S : cS} (h : RCs own m u k N S) (hk : k < 2 ^ 18) : ∃ S' own' N', Ans (d + 3) 303 [.ref m, .int x] S none S' ∧ RCs own' m u (k + 1) N' S' ∧ (∀ i, i < k → cw S' m i = cw S m i) ∧ cw S' m k = x ∧ FrO own [26] [] [100 * m + 1] [100 * m + 0] S S' ∧ (∀ a, a < 108 + (sS S).length → own' a = own a) ∧ mu S' + 2 * N = mu S + 2 * N' ∧ (sS S').length + N ≤ (sS S).length + N' ∧ (N' = N ∨ N' = 2 * k) := by
  obtain ⟨hm, hs, hk1, hkN, h64, hN2, g, hv, hg, ho⟩ := h
  by_cases hlt : k < N
  · refine ⟨_, own, N, Ans.up (by omega) (cput_fit (d := 0) (x := x) hm hs hv hg hk1 hlt (by omega)), ⟨hm, hs, rIe _ _ _, by omega, h64, by omega, g, hv, isK_S rfl hg, ho⟩, fun i hi => ?_, ?_, ⟨rfl, rfl, fun i hi => ?_, fun _ _ => rfl, ⟨[], (List.append_nil _).symm⟩, fun a _ h2 => ?_, fun _ _ _ => rfl⟩, fun _ _ => rfl, rfl, Nat.le_refl _, Or.inl rfl⟩
    · rw [cw_eq (g := g) hv, cw_eq (g := g) (by exact hv)]
      show (if g = g then upd (sA S g) k x else sA S g) i = _
      rw [if_pos rfl, upd_at, if_neg (by omega)]
    · rw [cw_eq (g := g) (by exact hv)]
      show (if g = g then upd (sA S g) k x else sA S g) k = _
      rw [if_pos rfl, upd_at, if_pos rfl]
    · have hi2 : i ≠ 100 * m + 1 := fun e => hi (by rw [e]; exact List.mem_singleton.mpr rfl)
      exact rIn _ _ hi2
    · have h3 : a ≠ g := fun e => h2 (by rw [e, ho]; decide)
      exact rAn _ _ _ h3
  · obtain rfl : k = N := by omega
    have hC := copyOfI (d := d) (n := 2 * k) hg (by omega) (by omega)
    have hs1 : (sS (newI 0 (2 * k) (cpI (sA S g) k) S))[m - 108]? = some (12, u) := sS_old (l := [(0, 2 * k)]) rfl hs
    have hv2 : sV (wV (100 * m + 0) (.ref (108 + (sS S).length)) (newI 0 (2 * k) (cpI (sA S g) k) S)) (100 * m + 0) = .ref (108 + (sS S).length) := by rw [rV, if_pos rfl]
    have hk2 : isK (grI (100 * m + 0) 0 (2 * k) g k S) (108 + (sS S).length) 0 (2 * k) := grI_k
    have hlen : (sS (grI (100 * m + 0) 0 (2 * k) g k S)).length = (sS S).length + 1 := by rw [grI_S, List.length_append]; rfl
    have hmo : m < 108 + (sS S).length := by
      have := List.getElem?_eq_some_iff.mp hs
      obtain ⟨h1, _⟩ := this
      omega
    have hgl : g < 108 + (sS S).length := isK_lt hg
    have hB := cput_tail (d := d + 2) (x := x) (S := wV (100 * m + 0) (.ref (108 + (sS S).length)) (newI 0 (2 * k) (cpI (sA S g) k) S)) (u := u) (N := 2 * k) (k := k) hm hs1 hv2 hk2 hk1 (by omega) (by omega)
    refine ⟨_, fun a => if a = 108 + (sS S).length then (26, 0) else own a, 2 * k, cput_more hm hs hs1 hv hg hk1 (by omega) hC hB, ⟨hm, hs1, rIe _ _ _, by omega, by omega, by omega, 108 + (sS S).length, hv2, isK_S rfl hk2, by
      show (if 108 + (sS S).length = 108 + (sS S).length then (26, 0) else own (108 + (sS S).length)).1 = 26
      rw [if_pos rfl]⟩, fun i hi => ?_, ?_, ⟨rfl, rfl, fun i hi => ?_, fun i hi => ?_, ⟨[(0, 2 * k)], rfl⟩, fun a h1 h2 => ?_, fun _ _ _ => rfl⟩, fun a ha => if_neg (by omega), ?_, ?_, Or.inr rfl⟩
    · rw [cw_eq (g := 108 + (sS S).length) (by exact hv2), cw_eq hv]
      show (if 108 + (sS S).length = 108 + (sS S).length then upd (sA (grI (100 * m + 0) 0 (2 * k) g k S) (108 + (sS S).length)) k x else sA (grI (100 * m + 0) 0 (2 * k) g k S) (108 + (sS S).length)) i = _
      rw [if_pos rfl, upd_at, if_neg (by omega), grI_A, if_pos rfl, cpI_at hi]
    · rw [cw_eq (g := 108 + (sS S).length) (by exact hv2)]
      show (if 108 + (sS S).length = 108 + (sS S).length then upd (sA (grI (100 * m + 0) 0 (2 * k) g k S) (108 + (sS S).length)) k x else sA (grI (100 * m + 0) 0 (2 * k) g k S) (108 + (sS S).length)) k = _
      rw [if_pos rfl, upd_at, if_pos rfl]
    · have hi2 : i ≠ 100 * m + 1 := fun e => hi (by rw [e]; exact List.mem_singleton.mpr rfl)
      exact rIn _ _ hi2
    · have hi2 : i ≠ 100 * m + 0 := fun e => hi (by rw [e]; exact List.mem_singleton.mpr rfl)
      show sV (grI (100 * m + 0) 0 (2 * k) g k S) i = _
      rw [grI_V, if_neg hi2]
    · show sA (wA (108 + (sS S).length) k x (grI (100 * m + 0) 0 (2 * k) g k S)) a = _
      rw [rAn _ _ _ (show a ≠ 108 + (sS S).length by omega), grI_A, if_neg (by omega)]
    · show mu (grI (100 * m + 0) 0 (2 * k) g k S) + 2 * k = _
      rw [grI_m]
      omega
    · show (sS (grI (100 * m + 0) 0 (2 * k) g k S)).length + k ≤ _
      rw [hlen]
      omega
/-- owners stay right as code m grows -/
theorem OW_m {own own' : Nat → Nat × Nat} {A L LI LV : List Nat} {S S' : cS} {m : Nat} (hO : OW own S) (hF : FrO own A L LI LV S S') (hV : ∀ i, i ∈ LV → ∃ j, j < 100 ∧ i = 100 * m + j) (hm : 108 ≤ m) (ho : ∀ a, a < 108 + (sS S).length → own' a = own a) (ht : ∀ p t, p < 1500 → sQ S 86 p = some t → t ≠ m) : OW own' S' := by
  obtain ⟨l, hS⟩ := hF.2.2.2.2.1
  have hl : (sS S').length = (sS S).length + l.length := by rw [hS, List.length_append]
  refine ⟨fun a ha => ?_, fun a h1 h2 h3 h4 => ?_, fun k a hk ha => ?_, fun p t hp hq f f1 f2 => ?_⟩
  · rw [ho a (by omega)]; exact hO.1 a ha
  · rw [ho a (by omega)]; exact hO.2.1 a h1 h2 h3 h4
  · rw [hF.2.1] at ha
    obtain ⟨q1, q2⟩ := hO.2.2.1 k a hk ha
    exact ⟨by rw [ho a q2]; exact q1, by omega⟩
  · rw [hF.2.1] at hq
    obtain ⟨v, c1, c2, c3⟩ := hO.2.2.2 p t hp hq f f1 f2
    have := ht p t hp hq
    refine ⟨v, ?_, by omega, by rw [ho v c2]; exact c3⟩
    rw [hF.2.2.2.1 _ (fun hm => by
      obtain ⟨j, j1, j2⟩ := hV _ hm
      omega)]
    exact c1
