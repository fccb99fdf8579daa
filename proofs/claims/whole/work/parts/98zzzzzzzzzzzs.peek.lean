/-! DEEDS OF TWO WORDS: what an index gives, list and index kept: op 40 (28, then 15) -/
section
variable {P : Nat → Prop} {T : cS} {gT : Nat} {Q : Nat → Prop} {β β' : Nat → Nat} {F : Nat → Nat → Nat → Prop} {loc par : Nat → Nat → Nat} {ty : Nat → Nat × Nat} {G : Nat → Nat → Nat → Nat × Nat × LL → Prop} {D D' K : List Nat} {z nn g0 g1 g3 g4 g5 gn d d' n m p q q' q1 k e jc o xx v rr : Nat} {ac : List Value} {tq : Nat → Nat × Nat} {C r : List Lv} {x : Lv} {S S' S1 X W W1 Sc Sr : cS} {hi lo : Int64} {R : cS → Int32 → cS → Prop}
theorem peek40_R (h : CI F loc par ty G tq (x :: r) S) (hl : lob (vL x) ≤ vH x) (h2 : 2 ≤ vH x) (h6 : vH x + 1 ≤ 600) (hq1 : q1 < 2 ^ 20) : opG F loc par ty G tq (d + 15) 189 [.ref 53, .int (nI 40)] (rT2 (d + 15) r.length (nI q1) (nI (vQ x)) 28 15 0) x r (vH x - 0 + 1, vU x, vL x) S := by
  have m400 := ml_400
  obtain ⟨c1, c2, c3, c4, c5⟩ := CI_len h
  have hT := CI_T h
  have hcal : cCal S (x :: r) := h.2.2.2.2.1
  obtain ⟨q, hq, hqe, hqv⟩ := ix_C (d := d) (op := 40) (nt := 0) h h2 (Or.inr ⟨rfl, rfl⟩)
  have two : ∀ {P T gT Q β D z nn g0 g1 g3 g4 g5 gn Sr}, XR P T gT Q β F D z nn g0 g1 g3 g4 g5 gn tq (x :: r) S Sr → ∃ W1, Ans (d + 15) 400 [.ref 61, .int (nI 28), .int (nI 0)] (wA 95 r.length (nI q1) Sr) (some (.int 1)) W1 ∧ sFr 0 (wA 95 r.length (nI q1) Sr) W1 ∧ sFr (topC (x :: r) + offC (x :: r)) Sr (wA 95 r.length (nI (vQ x)) W1) ∧ (∀ e, q = .inl e → Ans (d + 14) 409 [.ref 61] (wA 95 r.length (nI (vQ x)) W1) (some (.int (nI 0))) (wI 6164 (nI e) (wA 95 r.length (nI (vQ x)) W1))) ∧ ∀ hi lo, q = .inr (hi, lo) → ∃ W, Ans (d + 14) 409 [.ref 61] (wA 95 r.length (nI (vQ x)) W1) (some (.int (nI 1))) W ∧ sFr (topC (x :: r) + offC (x :: r)) (wA 95 r.length (nI (vQ x)) W1) W ∧ sI W 6151 = nI (topC (x :: r) + offC (x :: r) + 1) ∧ vrel β hi lo (sA W 91 (topC (x :: r) + offC (x :: r))) (sL W 92 (topC (x :: r) + offC (x :: r))) (sL W 93 (topC (x :: r) + offC (x :: r))) := fun {P T gT Q β D z nn g0 g1 g3 g4 g5 gn Sr} hX => by
    obtain ⟨W1, a1, a2, a3, ⟨b1, b2, b3⟩, d1, d2, d3⟩ := pek_1 (d := d + 5) (xx := 0) (CI_at h (vP x) q1) (XR_at hX hq1 (vP x)) h2 (by omega)
    have a1' : Ans (d + 15) 400 [.ref 61, .int (nI 28), .int (nI 0)] (wA 95 r.length (nI q1) Sr) (some (.int 1)) W1 := a1
    have a2' : sFr (topC (x :: r) + offC (x :: r)) (wA 95 r.length (nI q1) Sr) W1 := a2
    have hF := sFr_95 a2' (XR_top hX).2.1
    have v1 := XR_v hX (i := 1) (by omega)
    have v0 := XR_v hX (i := 0) (by omega)
    have t1 : sA W1 91 (topC (x :: r) + offC (x :: r)) = sA Sr 91 (topC (x :: r) + offC (x :: r) - 2) := b1
    have t2 : sL W1 92 (topC (x :: r) + offC (x :: r)) = sL Sr 92 (topC (x :: r) + offC (x :: r) - 2) := b2
    have t3 : sL W1 93 (topC (x :: r) + offC (x :: r)) = sL Sr 93 (topC (x :: r) + offC (x :: r) - 2) := b3
    have t4 : sA W1 91 (topC (x :: r) + offC (x :: r) + 1) = sA Sr 91 (topC (x :: r) + offC (x :: r) - 1) := d1
    have t5 : sL W1 92 (topC (x :: r) + offC (x :: r) + 1) = sL Sr 92 (topC (x :: r) + offC (x :: r) - 1) := d2
    have t6 : sL W1 93 (topC (x :: r) + offC (x :: r) + 1) = sL Sr 93 (topC (x :: r) + offC (x :: r) - 1) := d3
    rw [show topC (x :: r) + offC (x :: r) - 1 - 1 = topC (x :: r) + offC (x :: r) - 2 by omega, ← t1, ← t2, ← t3] at v1
    rw [show topC (x :: r) + offC (x :: r) - 1 - 0 = topC (x :: r) + offC (x :: r) - 1 by omega, ← t4, ← t5, ← t6] at v0
    have a3' : sI W1 6151 = nI (topC (x :: r) + offC (x :: r) + 2) := a3
    obtain ⟨ie, iv⟩ := ix_T (d := d) (Sr := wA 95 r.length (nI (vQ x)) W1) (t := topC (x :: r) + offC (x :: r) + 2) (XN_s hX hF).1 (CI_oks h) (CI_z0 h) a3' (by omega) (by omega) v1 v0 (CI_k h (by omega)) (CI_k h (by omega)) (CI_vk h) hq
    exact ⟨W1, a1', ⟨a2'.1, a2'.2.1, a2'.2.2.1, a2'.2.2.2.1, a2'.2.2.2.2.1, a2'.2.2.2.2.2.1, a2'.2.2.2.2.2.2.1, a2'.2.2.2.2.2.2.2.1, fun i hi => absurd hi (Nat.not_lt_zero i)⟩, hF, ie, iv⟩
  have et : topC (x :: r) - 0 + offC (x :: r) = topC (x :: r) + offC (x :: r) := by omega
  cases q with
  | inl e =>
    obtain ⟨he, hA⟩ := hqe e rfl
    refine Or.inr ⟨e, S, he, hA.up (by omega), h, CFr.refl S, fun P T gT Q β D z nn g0 g1 g3 g4 g5 gn Sr hX => ?_⟩
    obtain ⟨W1, a1, a0, a2, a3, _⟩ := two hX
    exact ⟨Q, β, D, nn, g0, g1, g3, g4, g5, gn, _, ⟨W1, a1, a0, Ans.of (by rw [m400]; exact Nat.le_of_ble_eq_true rfl) (Bod.lv (by rfl) (rPl_9 (d := d + 6) (by omega) (by omega) rfl (a3 e rfl)))⟩, rIe _ _ _, XRe_I (XRe_W hX hcal hl a2) (Or.inl rfl)⟩
  | inr w =>
    obtain ⟨hi, lo⟩ := w
    obtain ⟨hk, o, ho, ho2, hol⟩ := ixQ_v h hq
    refine opG_give (dg := d + 2) (v := 0) (o := o) h (by omega) (by omega) ho ho2 hol hk (fun S' hg => (hqv hi lo S' rfl hg).up (by omega)) (fun P T gT Q β D z nn g0 g1 g3 g4 g5 gn Sr hX => ?_)
    obtain ⟨W1, a1, a0, a2, _, a3⟩ := two hX
    obtain ⟨W, w1, w2, w3, w4⟩ := a3 hi lo rfl
    rw [et]
    exact ⟨W, ⟨W1, a1, a0, Ans.of (by rw [m400]; exact Nat.le_of_ble_eq_true rfl) (Bod.lv (by rfl) (rPl_8 (d := d + 6) (by omega) (by omega) rfl w1))⟩, a2.trans w2, w3, w4⟩
end
