/-! DEEDS ON BOTH SIDES: + -/
section
variable {P : Nat → Prop} {T : cS} {gT : Nat} {Q : Nat → Prop} {β β' : Nat → Nat} {F : Nat → Nat → Nat → Prop} {loc par : Nat → Nat → Nat} {ty : Nat → Nat × Nat} {G : Nat → Nat → Nat → Nat × Nat × LL → Prop} {D D' K : List Nat} {z nn g0 g1 g3 g4 g5 gn d d' dr v o i k n m t tp tt jc jr jc' jr' : Nat} {ac ar ac' ar' : List Value} {s' : Nat × Nat × LL} {tq : Nat → Nat × Nat} {C r : List Lv} {x : Lv} {S S' S1 X W Sc Sr : cS} {f g : Nat → Nat} {hi lo kh kl a b : Int64} {kd rb : Int32}
theorem opR_uX (h : opR F loc par ty G tq d jc ac jr ar x r s' S) (hc : ∀ rb S', Ans d jc ac S (some (.int rb)) S' → Ans d' jc' ac' S (some (.int rb)) S') (hw : ∀ {P T gT Q β D z nn g0 g1 g3 g4 g5 gn Sr}, XR P T gT Q β F D z nn g0 g1 g3 g4 g5 gn tq (x :: r) S Sr → ∀ W, (Ans d jr ar Sr (some (.int 1)) W → Ans d' jr' ar' Sr (some (.int 1)) W) ∧ (Ans d jr ar Sr (some (.int 0)) W → Ans d' jr' ar' Sr (some (.int 0)) W)) : opR F loc par ty G tq d' jc' ac' jr' ar' x r s' S := by
  rcases h with ⟨S', h1, h2, h3, h4⟩ | ⟨e, S', he, h1, h2, h3, h4⟩
  · refine Or.inl ⟨S', hc _ _ h1, h2, h3, fun P T gT Q β D z nn g0 g1 g3 g4 g5 gn Sr hX => ?_⟩
    obtain ⟨Q', β', D', nn', h0, h1, h3, h4, h5, hn, W, w1, w2⟩ := h4 P T gT Q β D z nn g0 g1 g3 g4 g5 gn Sr hX
    exact ⟨Q', β', D', nn', h0, h1, h3, h4, h5, hn, W, (hw hX W).1 w1, w2⟩
  · refine Or.inr ⟨e, S', he, hc _ _ h1, h2, h3, fun P T gT Q β D z nn g0 g1 g3 g4 g5 gn Sr hX => ?_⟩
    obtain ⟨Q', β', D', nn', h0, h1, h3, h4, h5, hn, W, w1, w2⟩ := h4 P T gT Q β D z nn g0 g1 g3 g4 g5 gn Sr hX
    exact ⟨Q', β', D', nn', h0, h1, h3, h4, h5, hn, W, (hw hX W).2 w1, w2⟩
theorem ob_k4 (h : c_obj hi lo = nI o) (h0 : o ≠ 0) (ho : o ≤ 1500) : c_kind hi = nI 4 := by
  unfold c_obj at h
  split at h
  · rename_i c
    unfold c_kind
    rw [c]
    rfl
  · have : (nI 0 : Int32) = nI o := h
    exact absurd (nI_j (by omega) (by omega) this).symm h0
theorem tf_not {b : Bool} (h : ¬ b = true) : b = false := by cases b <;> simp_all
theorem add_R (h : CI F loc par ty G tq (x :: r) S) (hl : lob (vL x) + 2 ≤ vH x) (hex : exX F tq (x :: r) S) : opR F loc par ty G tq (d + 19) 189 [.ref 53, .int (nI 27)] 400 [.ref 61, .int (nI 8), .int (nI 43)] x r (vH x - 2 + 1, vU x, vL x) S := by
  have m189 := ml_189
  have m194 := ml_194
  have m196 := ml_196
  have m401 := ml_401
  have m405 := ml_405
  obtain ⟨l1, l2, l3, l4, l5⟩ := CI_len h
  have hT := CI_T h
  have goC : ∀ {e : Int32} {S'}, Bod (d + 18) 189 0 [(0, .ref 53), (1, .int (nI 27))] [] S (some (.int e)) S' → Ans (d + 19) 189 [.ref 53, .int (nI 27)] S (some (.int e)) S' := fun hb => Ans.of (by rw [m189]; exact Nat.le_of_ble_eq_true rfl) (Bod.lv (by rfl) hb)
  have eb : topC (x :: r) + offC (x :: r) - 1 - 1 = topC (x :: r) + offC (x :: r) - 2 := by omega
  have ev : topC (x :: r) + offC (x :: r) - 1 - 0 = topC (x :: r) + offC (x :: r) - 1 := by omega
  have h2t : 2 ≤ topC (x :: r) + offC (x :: r) := by omega
  have goR1 : ∀ {Sr : cS} {W : cS}, sI Sr 6151 = nI (topC (x :: r) + offC (x :: r)) → Bod (d + 16) 405 0 [(0, .ref 61), (1, .int (nI 43)), (2, .int (nI (topC (x :: r) + offC (x :: r) - 2))), (3, .int (nI (topC (x :: r) + offC (x :: r) - 1)))] [] Sr (some (.int 1)) W → Ans (d + 19) 400 [.ref 61, .int (nI 8), .int (nI 43)] Sr (some (.int 1)) W := fun h51 hb => rbin_1 (d := d + 9) (by omega) (Ans.of (by rw [m401]; exact Nat.le_of_ble_eq_true rfl) (Bod.lv (by rfl) (rBiA_1 (d := d + 9) h51 (by omega) h2t (by omega) (Ans.of (by rw [m405]; exact Nat.le_of_ble_eq_true rfl) (Bod.lv (by rfl) hb)))))
  have goR0 : ∀ {Sr : cS} {W : cS}, sI Sr 6151 = nI (topC (x :: r) + offC (x :: r)) → Bod (d + 16) 405 0 [(0, .ref 61), (1, .int (nI 43)), (2, .int (nI (topC (x :: r) + offC (x :: r) - 2))), (3, .int (nI (topC (x :: r) + offC (x :: r) - 1)))] [] Sr (some (.int 0)) W → Ans (d + 19) 400 [.ref 61, .int (nI 8), .int (nI 43)] Sr (some (.int 0)) W := fun h51 hb => rbin_0 (d := d + 9) (by omega) (Ans.of (by rw [m401]; exact Nat.le_of_ble_eq_true rfl) (Bod.lv (by rfl) (rBiA_2 (d := d + 9) h51 (by omega) h2t (by omega) (Ans.of (by rw [m405]; exact Nat.le_of_ble_eq_true rfl) (Bod.lv (by rfl) hb)))))
  obtain ⟨o, o1, o2, o3⟩ := mHS_o h.1 (i := topC (x :: r) - 1 - 1) (by omega)
  obtain ⟨ov, v1, v2, v3⟩ := mHS_o h.1 (i := topC (x :: r) - 1 - 0) (by omega)
  have h0 : ∀ {q}, q = 0 ∨ lv S q → h_kd S q = 1 → lv S q ∧ q ≠ 0 := fun {q} hq hk => by
    rcases hq with e | e
    · rw [e] at hk
      unfold h_kd at hk
      rw [CI_z0 h] at hk
      exact absurd hk (by decide)
    · exact ⟨e, by have := e.1; omega⟩
  have b1 : topC (x :: r) + offC (x :: r) - 2 < 20480 := by omega
  have b0 : topC (x :: r) + offC (x :: r) - 1 < 20480 := by omega
  have p1 : topC (x :: r) + offC (x :: r) - 2 < 2 ^ 20 := by omega
  have p0 : topC (x :: r) + offC (x :: r) - 1 < 2 ^ 20 := by omega
  have his : ∀ {P T gT Q β D z nn g0 g1 g3 g4 g5 gn Sr}, XR P T gT Q β F D z nn g0 g1 g3 g4 g5 gn tq (x :: r) S Sr → Ans (d + 16) 363 [.ref 61, .int (nI (topC (x :: r) + offC (x :: r) - 2)), .int (nI 1)] Sr (some (.int (nI (if h_kd S o = 1 then 1 else 0)))) Sr ∧ Ans (d + 16) 363 [.ref 61, .int (nI (topC (x :: r) + offC (x :: r) - 1)), .int (nI 1)] Sr (some (.int (nI (if h_kd S ov = 1 then 1 else 0)))) Sr := fun {P T gT Q β D z nn g0 g1 g3 g4 g5 gn Sr} hX => by
    have a := XR_is (d := d + 7) h hX (ob_ := 1) (by omega) o2 o3 o1
    have b := XR_is (d := d + 7) h hX (ob_ := 0) (by omega) v2 v3 v1
    rw [eb] at a
    rw [ev] at b
    constructor
    · by_cases c : h_kd S o = 1
      · rw [if_pos c]; exact (a.2 1 (Or.inl rfl) c).2.1
      · rw [if_neg c]; exact a.1 1 (Or.inl rfl) c
    · by_cases c : h_kd S ov = 1
      · rw [if_pos c]; exact (b.2 1 (Or.inl rfl) c).2.1
      · rw [if_neg c]; exact b.1 1 (Or.inl rfl) c
  have kds : ∀ {P T gT Q β D z nn g0 g1 g3 g4 g5 gn Sr}, XR P T gT Q β F D z nn g0 g1 g3 g4 g5 gn tq (x :: r) S Sr → ∃ e1 e0, e1 ≤ 4 ∧ e0 ≤ 4 ∧ sA Sr 91 (topC (x :: r) + offC (x :: r) - 2) = nI e1 ∧ sA Sr 91 (topC (x :: r) + offC (x :: r) - 1) = nI e0 ∧ c_kind (sL S 47 (topC (x :: r) - 1 - 1)) = nI (e1 + 1) ∧ c_kind (sL S 47 (topC (x :: r) - 1 - 0)) = nI (e0 + 1) := fun {P T gT Q β D z nn g0 g1 g3 g4 g5 gn Sr} hX => by
    obtain ⟨e1, c1, c2, c3⟩ := XR_k h hX (i := 1) (by omega)
    obtain ⟨e0, d1, d2, d3⟩ := XR_k h hX (i := 0) (by omega)
    rw [eb] at c2
    rw [ev] at d2
    exact ⟨e1, e0, c1, d1, c2, d2, c3, d3⟩
  have rf : ∀ Sr : cS, Ans (d + 16) 351 [.ref 61, .int (nI 2)] Sr (some (.int (nI 0))) (wI 6164 (nI 2) Sr) := fun Sr => rfail_T (d := d + 7) 2 (by omega) Sr
  by_cases kS : c_kind (sL S 47 (topC (x :: r) - 1 - 0)) = nI 3 ∧ c_kind (sL S 47 (topC (x :: r) - 1 - 1)) = nI 3
  · have q := ab_1 (d := d + 7) (k := 3) (by omega) l3 (by omega) (by omega) kS.1 kS.2
    refine opR_uX (d := d + 16) (js_R (d := d) h hl hex kS.2 kS.1) (fun rb S' hA => goC (mAc_4 (d := d + 10) (by omega) rfl q (hA.up (by omega)))) (fun {P T gT Q β D z nn g0 g1 g3 g4 g5 gn Sr} hX W => ?_)
    obtain ⟨e1, e0, c1, c0, a1, a0, t1, t0⟩ := kds hX
    have y1 : e1 = 2 := by have := nI_j (by omega) (by omega) (kS.2.symm.trans t1); omega
    have y0 : e0 = 2 := by have := nI_j (by omega) (by omega) (kS.1.symm.trans t0); omega
    have h51 := XR_51 hX
    exact ⟨fun hA => goR1 h51 (rRkA_21 (d := d + 8) p1 p0 b1 a1 (by omega) y1 b0 a0 (by omega) y0 hA), fun hA => goR0 h51 (rRkA_22 (d := d + 8) p1 p0 b1 a1 (by omega) y1 b0 a0 (by omega) y0 hA)⟩
  · have q := ab_0 (d := d + 7) (k := 3) (by omega) l3 (by omega) (by omega) kS
    by_cases kO : c_kind (sL S 47 (topC (x :: r) - 1 - 0)) = nI 4 ∧ c_kind (sL S 47 (topC (x :: r) - 1 - 1)) = nI 4
    · have q2 := ab_1 (d := d + 7) (k := 4) (by omega) l3 (by omega) (by omega) kO.1 kO.2
      by_cases kL : h_kd S o = 1 ∧ h_kd S ov = 1
      · refine opR_uX (d := d + 15) (jl_R (d := d) h hl o1 o2 v1 v2 (h0 o3 kL.1).1 (h0 v3 kL.2).1 kL.1 kL.2) (fun rb S' hA => goC (mAc_5 (d := d + 10) (by omega) rfl q q2 (hA.up (by omega)))) (fun {P T gT Q β D z nn g0 g1 g3 g4 g5 gn Sr} hX W => ?_)
        obtain ⟨e1, e0, c1, c0, a1, a0, t1, t0⟩ := kds hX
        have y1 : e1 = 3 := by have := nI_j (by omega) (by omega) (kO.2.symm.trans t1); omega
        have h51 := XR_51 hX
        obtain ⟨i1, i0⟩ := his hX
        rw [if_pos kL.1] at i1
        rw [if_pos kL.2] at i0
        exact ⟨fun hA => goR1 h51 (rRkA_1 (d := d + 8) p1 p0 b1 a1 (by omega) (by omega) i1 i0 (hA.up (by omega))), fun hA => goR0 h51 (rRkA_2 (d := d + 8) p1 p0 b1 a1 (by omega) (by omega) i1 i0 (hA.up (by omega)))⟩
      · have qo := obk_C (d := d + 5) (nv := 1) (kd := 1) h (by omega) (by omega) (by omega) o1 o2 o3
        have qv := obk_C (d := d + 5) (nv := 0) (kd := 1) h (by omega) (by omega) (by omega) v1 v2 v3
        have hc194 : Ans (d + 18) 194 [.ref 53] S (some (.int (nI 2))) S := by
          by_cases c1 : h_kd S o = 1
          · have c0 : ¬ h_kd S ov = 1 := fun c0 => kL ⟨c1, c0⟩
            rw [if_pos c1] at qo
            rw [if_neg c0] at qv
            exact Ans.of (by rw [m194]; exact Nat.le_of_ble_eq_true rfl) (Bod.lv (by rfl) (mJl_5 (d := d + 9) (by omega) qo (by omega) qv (h0 o3 c1).2 rfl))
          · rw [if_neg c1] at qo
            exact Ans.of (by rw [m194]; exact Nat.le_of_ble_eq_true rfl) (Bod.lv (by rfl) (mJl_1 (d := d + 9) (a1 := if h_kd S ov = 1 then ov else 0) (by omega) qo (by split <;> omega) qv rfl))
        refine opR_err (e := 2) h (by omega) (goC (mAc_5 (d := d + 10) (by omega) rfl q q2 hc194)) (fun P T gT Q β D z nn g0 g1 g3 g4 g5 gn Sr hX => ?_)
        obtain ⟨e1, e0, c1, c0, a1, a0, t1, t0⟩ := kds hX
        have y1 : e1 = 3 := by have := nI_j (by omega) (by omega) (kO.2.symm.trans t1); omega
        obtain ⟨i1, i0⟩ := his hX
        refine goR0 (XR_51 hX) ?_
        by_cases c1 : h_kd S o = 1
        · have c0 : ¬ h_kd S ov = 1 := fun c0 => kL ⟨c1, c0⟩
          rw [if_pos c1] at i1
          rw [if_neg c0] at i0
          exact rRkA_3 (d := d + 8) p1 p0 b1 a1 (by omega) (by omega) i1 i0 a1 (by omega) (by omega) (rf Sr)
        · rw [if_neg c1] at i1
          exact rRkA_7 (d := d + 8) p1 p0 b1 a1 (by omega) (by omega) i1 a1 (by omega) (by omega) (rf Sr)
    · have q2 := ab_0 (d := d + 7) (k := 4) (by omega) l3 (by omega) (by omega) kO
      by_cases kI : c_kind (sL S 47 (topC (x :: r) - 1 - 0)) = nI 2 ∧ c_kind (sL S 47 (topC (x :: r) - 1 - 1)) = nI 2
      · have q3 := ab_1 (d := d + 6) (k := 2) (by omega) l3 (by omega) (by omega) kI.1 kI.2
        have w1 := lo_ev (d := d + 15) (b := 1) l3 (by omega) (by omega)
        have w0 := lo_ev (d := d + 15) (b := 0) l3 (by omega) (by omega)
        have ko : ¬ h_kd S o = 1 := fun c => by
          have := ob_k4 o2 (h0 o3 c).2 o1
          rw [kI.2] at this
          exact absurd this (by decide)
        have rd : ∀ {P T gT Q β D z nn g0 g1 g3 g4 g5 gn Sr}, XR P T gT Q β F D z nn g0 g1 g3 g4 g5 gn tq (x :: r) S Sr → sA Sr 91 (topC (x :: r) + offC (x :: r) - 2) = nI 1 ∧ sA Sr 91 (topC (x :: r) + offC (x :: r) - 1) = nI 1 ∧ sL Sr 92 (topC (x :: r) + offC (x :: r) - 2) = sL S 48 (topC (x :: r) - 1 - 1) ∧ sL Sr 92 (topC (x :: r) + offC (x :: r) - 1) = sL S 48 (topC (x :: r) - 1 - 0) := fun {P T gT Q β D z nn g0 g1 g3 g4 g5 gn Sr} hX => by
          obtain ⟨e1, e0, c1, c0, a1, a0, t1, t0⟩ := kds hX
          have y1 : e1 = 1 := by have := nI_j (by omega) (by omega) (kI.2.symm.trans t1); omega
          have y0 : e0 = 1 := by have := nI_j (by omega) (by omega) (kI.1.symm.trans t0); omega
          subst y1
          subst y0
          have u1 := XR_v hX (i := 1) (by omega)
          have u0 := XR_v hX (i := 0) (by omega)
          rw [eb] at u1
          rw [ev] at u0
          exact ⟨a1, a0, ((vr_int u1).2 kI.2).2, ((vr_int u0).2 kI.1).2⟩
        by_cases hov : sm_c1 .ge (lg_cmp ((sL S 48 (topC (x :: r) - 1 - 1) ^^^ (sL S 48 (topC (x :: r) - 1 - 1) + sL S 48 (topC (x :: r) - 1 - 0))) &&& (sL S 48 (topC (x :: r) - 1 - 0) ^^^ (sL S 48 (topC (x :: r) - 1 - 1) + sL S 48 (topC (x :: r) - 1 - 0)))) 0) true false = true
        · refine opR_int (dg := d + 8) (v := 2) (sL S 48 (topC (x :: r) - 1 - 1) + sL S 48 (topC (x :: r) - 1 - 0)) h hl (by omega) (fun S' hg => goC (mAc_6 (d := d + 10) (by omega) rfl q q2 (Ans.of (by rw [m196]; exact Nat.le_of_ble_eq_true rfl) (Bod.lv (by rfl) (mAd_1 (d := d + 9) q3 w1 w0 hov hg))))) (fun P T gT Q β D z nn g0 g1 g3 g4 g5 gn Sr hX => ?_)
          obtain ⟨r1, r2, r3, r4⟩ := rd hX
          obtain ⟨i1, _⟩ := his hX
          rw [if_neg ko] at i1
          refine goR1 (XR_51 hX) (rRkA_8 (d := d + 8) (e91 := 1) (e911 := 1) (e912 := 1) p1 p0 b1 r1 (by omega) (by omega) i1 r1 (by omega) rfl b0 r2 (by omega) rfl (by rw [r3, r4]; exact hov) (XR_51 hX) (by omega) h2t ?_)
          rw [r3, r4]
          exact rpshI_T (d := d + 6) (by omega)
        · refine opR_err (e := 6) h (by omega) (goC (mAc_6 (d := d + 10) (by omega) rfl q q2 (Ans.of (by rw [m196]; exact Nat.le_of_ble_eq_true rfl) (Bod.lv (by rfl) (mAd_2 (d := d + 9) q3 w1 w0 (tf_not hov)))))) (fun P T gT Q β D z nn g0 g1 g3 g4 g5 gn Sr hX => ?_)
          obtain ⟨r1, r2, r3, r4⟩ := rd hX
          obtain ⟨i1, _⟩ := his hX
          rw [if_neg ko] at i1
          exact goR0 (XR_51 hX) (rRkA_9 (d := d + 8) (e91 := 1) (e911 := 1) (e912 := 1) p1 p0 b1 r1 (by omega) (by omega) i1 r1 (by omega) rfl b0 r2 (by omega) rfl (by rw [r3, r4]; exact tf_not hov) (rfail_T (d := d + 7) 6 (by omega) Sr))
      · have q3 := ab_0 (d := d + 6) (k := 2) (by omega) l3 (by omega) (by omega) kI
        refine opR_err (e := 2) h (by omega) (goC (mAc_6 (d := d + 10) (by omega) rfl q q2 (Ans.of (by rw [m196]; exact Nat.le_of_ble_eq_true rfl) (Bod.lv (by rfl) (mAd_3 (d := d + 9) q3))))) (fun P T gT Q β D z nn g0 g1 g3 g4 g5 gn Sr hX => ?_)
        obtain ⟨e1, e0, c1, c0, a1, a0, t1, t0⟩ := kds hX
        obtain ⟨i1, i0⟩ := his hX
        refine goR0 (XR_51 hX) ?_
        have nS : ¬ (e1 = 2 ∧ e0 = 2) := fun c => kS ⟨by rw [t0, c.2], by rw [t1, c.1]⟩
        have nO : ¬ (e1 = 3 ∧ e0 = 3) := fun c => kO ⟨by rw [t0, c.2], by rw [t1, c.1]⟩
        have nI' : ¬ (e1 = 1 ∧ e0 = 1) := fun c => kI ⟨by rw [t0, c.2], by rw [t1, c.1]⟩
        have i3 : h_kd S o = 1 → e1 = 3 := fun c => by
          have := ob_k4 o2 (h0 o3 c).2 o1
          rw [t1] at this
          have := nI_j (by omega) (by omega) this
          omega
        have i4 : h_kd S ov = 1 → e0 = 3 := fun c => by
          have := ob_k4 v2 (h0 v3 c).2 v1
          rw [t0] at this
          have := nI_j (by omega) (by omega) this
          omega
        by_cases y2 : e1 = 2
        · have c1' : ¬ h_kd S o = 1 := fun c => by have := i3 c; omega
          rw [if_neg c1'] at i1
          exact rRkA_17 (d := d + 8) p1 p0 b1 a1 (by omega) y2 b0 a0 (by omega) (by omega) i1 a1 (by omega) (by omega) (rf Sr)
        · by_cases c1' : h_kd S o = 1
          · have y3 := i3 c1'
            have c0' : ¬ h_kd S ov = 1 := fun c => nO ⟨y3, i4 c⟩
            rw [if_pos c1'] at i1
            rw [if_neg c0'] at i0
            exact rRkA_3 (d := d + 8) p1 p0 b1 a1 (by omega) y2 i1 i0 a1 (by omega) (by omega) (rf Sr)
          · rw [if_neg c1'] at i1
            by_cases y1 : e1 = 1
            · exact rRkA_10 (d := d + 8) p1 p0 b1 a1 (by omega) y2 i1 a1 (by omega) y1 b0 a0 (by omega) (fun c => nI' ⟨y1, c⟩) (rf Sr)
            · exact rRkA_7 (d := d + 8) p1 p0 b1 a1 (by omega) y2 i1 a1 (by omega) y1 (rf Sr)
end
