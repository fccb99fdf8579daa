/-! DEEDS ON BOTH SIDES: an item read, in the reference -/
section
variable {P : Nat → Prop} {T : cS} {gT : Nat} {Q : Nat → Prop} {β : Nat → Nat} {F : Nat → Nat → Nat → Prop} {loc par : Nat → Nat → Nat} {ty : Nat → Nat × Nat} {G : Nat → Nat → Nat → Nat × Nat × LL → Prop} {D K : List Nat} {z nn g0 g1 g3 g4 g5 gn d d' v o t tp i nt op : Nat} {tq : Nat → Nat × Nat} {C r : List Lv} {x : Lv} {s' : Nat × Nat × LL} {Sc Sr S S' W : cS} {hi lo kh kl a b w h1 l1 h0 l0 : Int64} {kd : Int32} {p : Sum Nat Nat} {q : Sum Nat (Int64 × Int64)}
/-- a text of the reference -/
theorem vr_txt (h : vrel β hi lo kd a b) (hk : kd = nI 2) : srel hi lo a b := by
  rcases h with ⟨_, _, h3⟩ | ⟨_, _, h3⟩ | ⟨h1, h3, h4⟩ | ⟨_, h3⟩ | ⟨_, _, _, _, _, h3, _⟩ | ⟨_, _, _, _, h3, _⟩
  · rw [h3] at hk; exact absurd hk (by decide)
  · rw [h3] at hk; exact absurd hk (by decide)
  · rw [h3] at hk; exact absurd hk (by decide)
  · exact h3
  · rw [h3] at hk; exact absurd hk (by decide)
  · rw [h3] at hk; exact absurd hk (by decide)
/-- bytes that the reference puts down for a while -/
theorem sFr_104 {j : Nat} {y : Int32} (h : sFr tp S W) : sFr tp S (wA 104 j y W) := h.trans ⟨rfl, rfl, rfl, rfl, rfl, fun _ _ => rfl, fun a _ h4 _ => if_neg h4, fun _ _ _ => rfl, fun _ _ => ⟨rfl, rfl, rfl⟩⟩
/-- a text of one byte, put down in the reference -/
theorem one_R (hb : tp < 20480) {q : Nat} (hq : q < 128) (h104 : sA S 104 0 = vp_nar .byte ((nI q).toInt8.toInt32)) : Ans (d + 9) 297 [.ref 104, .int (nI 0), .int (nI 1), .int (nI 0)] S (some (.long (p_A (fun _ => q) 1))) S ∧ Ans (d + 9) 297 [.ref 104, .int (nI 0), .int (nI 1), .int (nI 1)] S (some (.long (p_B (fun _ => q) 1))) S := by
  have hb : ∀ i, i < 1 → (fun _ : Nat => q) i < 256 ∧ sA S 104 (0 + i) &&& nI 255 = nI ((fun _ : Nat => q) i) := fun i hi => by
    refine ⟨by show q < 256; omega, ?_⟩
    rw [show 0 + i = 0 by omega, h104]
    exact nar_b q hq
  have r0 := packq_ev (d := d + 8) (fr := 0) (M := 1) (hf := 0) (by omega) (by omega) (by omega) hb
  have r1 := packq_ev (d := d + 8) (fr := 0) (M := 1) (hf := 1) (by omega) (by omega) (by omega) hb
  exact ⟨r0, r1⟩
theorem one_srel {q : Nat} (h : 32 ≤ q ∧ q ≤ 126) : srel (c_appHi 3458764513820540928 (nI q)) 0 (p_A (fun _ => q) 1) (p_B (fun _ => q) 1) := ⟨1, fun _ => q, by omega, fun _ _ => h, (one_e q (by omega)).1, (one_e q (by omega)).2, rfl, rfl⟩
/-- an item read: the reference -/
theorem ix_T (hR : HR Q β F D S Sr g0 g1 nn) (hok : ∀ o, lv S o → h_ok S o) (z0 : sA S 3 0 = 0) (ht : sI Sr 6151 = nI t) (h2 : 2 ≤ t) (ht2 : t ≤ 18800) (v1 : vrel β h1 l1 (sA Sr 91 (t - 2)) (sL Sr 92 (t - 2)) (sL Sr 93 (t - 2))) (v0 : vrel β h0 l0 (sA Sr 91 (t - 1)) (sL Sr 92 (t - 1)) (sL Sr 93 (t - 1))) (k1 : c_kind h1 ≠ 0) (k0 : c_kind h0 ≠ 0) (hvk : ∀ o i, lv S o → i < h_n S o → (h_kd S o = 1 ∨ h_kd S o = 2) → c_kind (h_hi S o i) ≠ 0) (hq : ixQ S h1 l1 h0 l0 q) : (∀ e, q = .inl e → Ans (d + 14) 409 [.ref 61] Sr (some (.int (nI 0))) (wI 6164 (nI e) Sr)) ∧ ∀ hi lo, q = .inr (hi, lo) → ∃ W, Ans (d + 14) 409 [.ref 61] Sr (some (.int (nI 1))) W ∧ sFr (t - 2) Sr W ∧ sI W 6151 = nI (t - 1) ∧ vrel β hi lo (sA W 91 (t - 2)) (sL W 92 (t - 2)) (sL W 93 (t - 2)) := by
  have m := ml_409
  have go : ∀ {v : Option Value} {W : cS}, Bod (d + 13) 409 0 [(0, .ref 61)] [] Sr v W → Ans (d + 14) 409 [.ref 61] Sr v W := fun h => Ans.of (by rw [m]; exact Nat.le_of_ble_eq_true rfl) (Bod.lv (by rfl) h)
  obtain ⟨e1, e14, ea1, ek1⟩ := vr_k v1 k1
  obtain ⟨e0, e04, ea0, ek0⟩ := vr_k v0 k0
  have kk : ∀ {e c : Nat}, e ≤ 4 → c ≤ 5 → (nI (e + 1) = nI c ↔ e + 1 = c) := fun he hc => ⟨fun h => nI_j (by omega) (by omega) h, fun h => by rw [h]⟩
  rcases hq with ⟨c3, hq⟩ | ⟨c3, o, p, o1, o2, o3, hp, hq⟩
  · -- a text
    have ee : e1 = 2 := by
      rw [ek1] at c3
      have := (kk e14 (by omega)).mp c3
      omega
    have hs := vr_txt v1 (by rw [ea1, ee])
    obtain ⟨n, n15, s1, s2⟩ := slen hs
    have qm := many_T (d := d + 3) (S := Sr) s2
    rcases hq with ⟨c2, hq⟩ | ⟨c2, hq⟩
    · have n1 : e0 ≠ 1 := fun c => c2 (by rw [ek0, c])
      refine ⟨fun e he => ?_, fun hi lo he => by rw [hq] at he; cases he⟩
      rw [hq] at he
      injection he with he
      subst he
      exact go (rGj_10 (d := d + 5) (e91 := e1) (e911 := e0) ht (by omega) h2 (by omega) ea1 (by omega) ee ea0 (by omega) n1 (rfail_T (d := d + 4) 2 (by omega) Sr))
    · have n1 : e0 = 1 := by
        rw [ek0] at c2
        have := (kk e04 (by omega)).mp c2
        omega
      have el : sL Sr 92 (t - 1) = l0 := ((vr_int v0).2 c2).2
      rw [s1] at hq
      cases hx : ixR l0 n with
      | none =>
        rw [hx] at hq
        have hin := in_N (S := Sr) (d := d + 12) (by omega) hx
        refine ⟨fun e he => ?_, fun hi lo he => by rw [hq] at he; cases he⟩
        rw [hq] at he
        injection he with he
        subst he
        unfold eW at hin
        by_cases cu : l0 < 0
        · rw [if_pos cu] at hin
          exact go (rGj_9 (d := d + 5) (e91 := e1) (e911 := e0) ht (by omega) h2 (by omega) ea1 (by omega) ee ea0 (by omega) n1 (qm.up (by omega)) (by rw [el]; exact lg_ge.2 cu) (by rw [el, nI_ll (by omega)]; exact hin) (rfail_T (d := d + 4) 3 (by omega) Sr))
        · rw [if_neg cu] at hin
          exact go (rGj_7 (d := d + 5) (e91 := e1) (e911 := e0) ht (by omega) h2 (by omega) ea1 (by omega) ee ea0 (by omega) n1 (qm.up (by omega)) (by rw [el]; exact lg_ge.1 cu) (by rw [el]; exact hin) (rfail_T (d := d + 4) 3 (by omega) Sr))
      | some i =>
        rw [hx] at hq
        obtain ⟨i1, i2, i3, i4⟩ := ix_some (by omega) hx
        have hin := in_R (S := Sr) (d := d + 12) (by omega) hx
        refine ⟨(fun e he => by rw [hq] at he; cases he), fun hi lo he => ?_⟩
        rw [hq] at he
        injection he with he
        injection he with he1 he2
        obtain ⟨n', f, n15', hf, f1, f2, f3, f4⟩ := hs
        have f8 : ∀ i, i < n' → f i < 256 := fun i hi => by have := hf i hi; omega
        have en : n' = n := by
          obtain ⟨x1, x2⟩ := xH_lt n15' f8
          rw [f1, (e_x n' n15' f8).1, c_len_lN x1, x2] at s1
          omega
        subst en
        have hfi := hf i i1
        have hby := byR (d := d + 4) (S := Sr) n15' i1 f8
        rw [← f3, ← f4] at hby
        have hbt : c_bt h1 l1 i = nI (f i) := by rw [f1, f2]; exact bt_e n15' i1 f8
        rw [hbt] at he1
        have mk : ∀ {W0 : cS}, W0 = wI 6151 (nI (t - 2)) (wA 104 0 (vp_nar .byte ((nI (f i)).toInt8.toInt32)) Sr) → Ans (d + 13) 297 [.ref 104, .int (nI 0), .int (nI 1), .int (nI 0)] W0 (some (.long (p_A (fun _ => f i) 1))) W0 ∧ Ans (d + 13) 297 [.ref 104, .int (nI 0), .int (nI 1), .int (nI 1)] W0 (some (.long (p_B (fun _ => f i) 1))) W0 := fun hW => by
          refine one_R (tp := 0) (d := d + 4) (by omega) (by omega) ?_
          rw [hW]
          show (if 104 = 104 then va_up (sA Sr 104) 0 _ else sA Sr 104) 0 = _
          rw [if_pos rfl]
          exact if_pos rfl
        obtain ⟨pk0, pk1⟩ := mk rfl
        have hps := rpsh_T (d := d + 4) (kd := nI 2) (xa := p_A (fun _ => f i) 1) (xb := p_B (fun _ => f i) 1) (tp := t - 2) (S := wA 104 0 (vp_nar .byte ((nI (f i)).toInt8.toInt32)) Sr) (by omega)
        obtain ⟨y1, y2, y3, y4, y5⟩ := pshW_s (tp := t - 2) (kd := nI 2) (xa := p_A (fun _ => f i) 1) (xb := p_B (fun _ => f i) 1) (S := wA 104 0 (vp_nar .byte ((nI (f i)).toInt8.toInt32)) Sr)
        refine ⟨_, ?_, (sFr_104 (sFr.refl _ _)).trans y1, by rw [y2, show t - 2 + 1 = t - 1 by omega], ?_⟩
        · unfold eW at hin i4
          by_cases cu : l0 < 0
          · rw [if_pos cu] at hin i4
            exact go (rGj_8 (d := d + 5) (e91 := e1) (e911 := e0) (o := i) ht (by omega) h2 (by omega) ea1 (by omega) ee ea0 (by omega) n1 (qm.up (by omega)) (by rw [el]; exact lg_ge.2 cu) (by rw [el, nI_ll (by omega)]; exact hin) (by rw [el, nI_ll (by omega), i4, lN_i]) (by omega) (by omega) hby ht (by omega) h2 pk0 pk1 hps)
          · rw [if_neg cu] at hin i4
            exact go (rGj_6 (d := d + 5) (e91 := e1) (e911 := e0) (o := i) ht (by omega) h2 (by omega) ea1 (by omega) ee ea0 (by omega) n1 (qm.up (by omega)) (by rw [el]; exact lg_ge.1 cu) (by rw [el]; exact hin) (by rw [el, i4, lN_i]) (by omega) (by omega) hby ht (by omega) h2 pk0 pk1 hps)
        · rw [y3, y4, y5, ← he1, ← he2]
          exact Or.inr (Or.inr (Or.inr (Or.inl ⟨rfl, one_srel hfi⟩)))
  · -- an object, or another value
    have ee : e1 ≠ 2 := fun c => c3 (by rw [ek1, c])
    have bad : (h_kd S o ≠ 1 ∧ h_kd S o ≠ 2) → Ans (d + 13) 363 [.ref 61, .int (nI (t - 2)), .int (nI 1)] Sr (some (.int (nI 0))) Sr → Ans (d + 13) 363 [.ref 61, .int (nI (t - 2)), .int (nI 2)] Sr (some (.int (nI 0))) Sr → (∀ e, q = .inl e → Ans (d + 14) 409 [.ref 61] Sr (some (.int (nI 0))) (wI 6164 (nI e) Sr)) ∧ ∀ hi lo, q = .inr (hi, lo) → ∃ W, Ans (d + 14) 409 [.ref 61] Sr (some (.int (nI 1))) W ∧ sFr (t - 2) Sr W ∧ sI W 6151 = nI (t - 1) ∧ vrel β hi lo (sA W 91 (t - 2)) (sL W 92 (t - 2)) (sL W 93 (t - 2)) := fun hb q1 q2 => by
      have hp2 : p = .inl 2 := by
        rcases hp with ⟨_, _, c⟩ | ⟨c, _, _⟩ | ⟨c, _, _⟩ | ⟨c, _⟩ | ⟨c, _⟩ | ⟨c, _⟩
        · exact c
        · exact absurd c hb.1
        · exact absurd c hb.1
        · exact absurd c hb.2
        · exact absurd c hb.2
        · exact absurd c hb.2
      rw [hp2] at hq
      refine ⟨fun e he => ?_, fun hi lo he => by rw [hq] at he; cases he⟩
      rw [hq] at he
      injection he with he
      subst he
      exact go (rGj_5 (d := d + 5) (e91 := e1) ht (by omega) h2 (by omega) ea1 (by omega) ee q1 q2 (rfail_T (d := d + 4) 2 (by omega) Sr))
    obtain ⟨o', p1, p2, p3⟩ := vrel_ob v1
    have eo : o' = o := nI_j (by omega) (by omega) (p2.symm.trans o2)
    subst eo
    obtain ⟨i1, j1⟩ := isT_T (d := d + 4) (S := Sr) (o := β o') (k := t - 2) (e := e1) (kq := 1) (by omega) (by omega) ea1 e14
    obtain ⟨i2, j2⟩ := isT_T (d := d + 4) (S := Sr) (o := β o') (k := t - 2) (e := e1) (kq := 2) (by omega) (by omega) ea1 e14
    by_cases e3 : e1 = 3
    · have hl : lv S o' := by
        rcases p3 with ⟨_, c⟩ | ⟨c, _⟩
        · exact absurd (by rw [ea1, e3]) c
        · exact o3.resolve_left (by omega)
      have ha : sL Sr 92 (t - 2) = lN (β o') := by
        rcases p3 with ⟨_, c⟩ | ⟨_, _, c⟩
        · exact absurd (by rw [ea1, e3]) c
        · exact c
      have hob := hR.ob hl
      obtain ⟨th, t1, t2⟩ := hR.th hl
      obtain ⟨g1', g2', N, g3'⟩ := tOk_t t2
      have hok' := hok o' hl
      have hn3 := h_n_le hok'
      obtain ⟨kd, zz, k7, z3, k3, k10, hkd, hzz, hw⟩ := kdz hok'
      have hob' := hob
      obtain ⟨b1, _, t', w2, w3, w4, w5, w6, w7, n2, m2, c1, c2, c3', c4, c5, _⟩ := hob'
      have et : t' = th := by
        have := c1.1
        rw [t1] at this
        injection this with this
        exact this.symm
      subst et
      have c2' : sI Sr (100 * t' + 0) = nI kd := by rw [c2, k3]
      obtain ⟨jy1, jn1⟩ := j1 t' N kd e3 ha b1 t1 g1' g3' c2' k7
      obtain ⟨jy2, jn2⟩ := j2 t' N kd e3 ha b1 t1 g1' g3' c2' k7
      have q6 := tha_T (d := d + 4) (S := Sr) (o := β o') (k := t - 2) (by omega) (by rw [ea1, e3]) ha b1 t1 t2
      by_cases hk : h_kd S o' = 1 ∨ h_kd S o' = 2
      · have hloc := loc_T (d := d + 1) hok' (show t - 1 < 20480 by omega) e04 ea0 ek0 v0 hp hk hob t1 t2
        cases p with
        | inl e =>
          refine ⟨fun e' he => ?_, fun hi lo he => by rw [hq] at he; cases he⟩
          rw [hq] at he
          injection he with he
          subst he
          rcases hk with hk | hk
          · exact go (rGj_2 (d := d + 5) (e91 := e1) (zg := 0) ht (by omega) h2 (by omega) ea1 (by omega) ee (jy1 (by omega)) g1' q6 hloc)
          · exact go (rGj_4 (d := d + 5) (e91 := e1) (zg := 0) ht (by omega) h2 (by omega) ea1 (by omega) ee (jn1 (by omega)) (jy2 (by omega)) g1' q6 hloc)
        | inr i =>
          obtain ⟨_, hi2⟩ := lcQ_i hp
          refine ⟨(fun e he => by rw [hq] at he; cases he), fun hi lo he => ?_⟩
          rw [hq] at he
          injection he with he
          injection he with he1 he2
          have hv := c5 i hi2
          obtain ⟨ev, ev4, eva, _⟩ := vr_k hv (hvk o' i hl hi2 hk)
          obtain ⟨r1, r2, r3, r4, r5, r6, r7, r8, r9, s2, s3, s4, s5, s6, s7, s8, s9, u2, u3, u4, u5, u6, u7⟩ := c1
          obtain ⟨N', r3⟩ := r3
          have hps := rpsh_T (d := d + 4) (kd := nI ev) (xa := sL Sr w4 i) (xb := sL Sr w5 i) (tp := t - 2) (S := Sr) (by omega)
          obtain ⟨y1, y2, y3, y4, y5⟩ := pshW_s (tp := t - 2) (kd := nI ev) (xa := sL Sr w4 i) (xb := sL Sr w5 i) (S := Sr)
          refine ⟨_, ?_, y1, by rw [y2, show t - 2 + 1 = t - 1 by omega], ?_⟩
          · rcases hk with hk | hk
            · exact go (rGj_1 (d := d + 5) (e91 := e1) ht (by omega) h2 (by omega) ea1 (by omega) ee (jy1 (by omega)) g1' q6 (by omega) hloc ht (by omega) h2 r3 r4 s2 s8 (by omega) eva (by omega) r6 s4 s8 (by omega) r7 s5 s8 (by omega) hps)
            · exact go (rGj_3 (d := d + 5) (e91 := e1) ht (by omega) h2 (by omega) ea1 (by omega) ee (jn1 (by omega)) (jy2 (by omega)) g1' q6 (by omega) hloc ht (by omega) h2 r3 r4 s2 s8 (by omega) eva (by omega) r6 s4 s8 (by omega) r7 s5 s8 (by omega) hps)
          · rw [y3, y4, y5, ← he1, ← he2, ← eva]
            exact hv
      · exact bad ⟨fun c => hk (Or.inl c), fun c => hk (Or.inr c)⟩ (jn1 (fun c => hk (Or.inl (by omega)))) (jn2 (fun c => hk (Or.inr (by omega))))
    · have e0' : o' = 0 := by
        rcases p3 with ⟨c, _⟩ | ⟨_, c, _⟩
        · exact c
        · rw [ea1] at c
          exact absurd (nI_j (by omega) (by omega) c) e3
      refine bad ?_ (i1 e3) (i2 e3)
      rw [e0']
      unfold h_kd
      rw [z0]
      exact ⟨by decide, by decide⟩
theorem CI_vk (h : CI F loc par ty G tq (x :: r) S) : ∀ o i, lv S o → i < h_n S o → (h_kd S o = 1 ∨ h_kd S o = 2) → c_kind (h_hi S o i) ≠ 0 := fun o i hl hi hk => by
  refine ((h.2.2.2.1 o hl).2.1 i hi).2 (fun c => ?_)
  unfold h_kd at hk
  rw [c] at hk
  exact absurd hk (by decide)
theorem CI_z0 (h : CI F loc par ty G tq (x :: r) S) : sA S 3 0 = 0 := by
  obtain ⟨_, _, _, _, _, _, _, _, _, _, z0⟩ := h.1.1.2.1
  exact z0
theorem CI_oks (h : CI F loc par ty G tq (x :: r) S) : ∀ o, lv S o → h_ok S o := fun o hl => mHS_ok h.1 o hl.1 hl.2.1
/-- an item in the place of its object and its key, on both sides -/
theorem idx_R (h : CI F loc par ty G tq (x :: r) S) (hl : lob (vL x) + 2 ≤ vH x) (xx : Nat) (hx : xx < 2 ^ 20) : opR F loc par ty G tq (d + 15) 189 [.ref 53, .int (nI 39)] 400 [.ref 61, .int (nI 15), .int (nI xx)] x r (vH x - 2 + 1, vU x, vL x) S := by
  have m400 := ml_400
  obtain ⟨c1, c2, c3, c4, c5⟩ := CI_len h
  have hT := CI_T h
  obtain ⟨q, hq, hqe, hqv⟩ := ix_C (d := d) (op := 39) (nt := 2) h (by omega) (Or.inl ⟨rfl, rfl⟩)
  have eix := fun P T gT Q β D z nn g0 g1 g3 g4 g5 gn Sr (hX : XR P T gT Q β F D z nn g0 g1 g3 g4 g5 gn tq (x :: r) S Sr) => by
    have v1 := XR_v hX (i := 1) (by omega)
    have v0 := XR_v hX (i := 0) (by omega)
    rw [show topC (x :: r) + offC (x :: r) - 1 - 1 = topC (x :: r) + offC (x :: r) - 2 by omega] at v1
    rw [show topC (x :: r) + offC (x :: r) - 1 - 0 = topC (x :: r) + offC (x :: r) - 1 by omega] at v0
    exact ix_T (d := d) hX.1 (CI_oks h) (CI_z0 h) (XR_51 hX) (by omega) (by omega) v1 v0 (CI_k h (by omega)) (CI_k h (by omega)) (CI_vk h) hq
  have et : topC (x :: r) - 2 + offC (x :: r) = topC (x :: r) + offC (x :: r) - 2 := by omega
  cases q with
  | inl e =>
    obtain ⟨he, hA⟩ := hqe e rfl
    refine opR_err h he (hA.up (by omega)) (fun P T gT Q β D z nn g0 g1 g3 g4 g5 gn Sr hX => ?_)
    have := (eix P T gT Q β D z nn g0 g1 g3 g4 g5 gn Sr hX).1 e rfl
    exact Ans.of (by rw [m400]; exact Nat.le_of_ble_eq_true rfl) (Bod.lv (by rfl) (rPl_9 (d := d + 6) (by omega) hx rfl this))
  | inr w =>
    obtain ⟨hi, lo⟩ := w
    obtain ⟨hk, o, ho, ho2, hol⟩ := ixQ_v h hq
    refine opR_give (dg := d + 2) (v := 2) (o := o) h hl (by omega) ho ho2 hol hk (fun S' hg => (hqv hi lo S' rfl hg).up (by omega)) (fun P T gT Q β D z nn g0 g1 g3 g4 g5 gn Sr hX => ?_)
    obtain ⟨W, w1, w2, w3, w4⟩ := (eix P T gT Q β D z nn g0 g1 g3 g4 g5 gn Sr hX).2 hi lo rfl
    rw [et]
    exact ⟨W, Ans.of (by rw [m400]; exact Nat.le_of_ble_eq_true rfl) (Bod.lv (by rfl) (rPl_8 (d := d + 6) (by omega) hx rfl w1)), w2, by rw [w3]; congr 1; omega, w4⟩
end
