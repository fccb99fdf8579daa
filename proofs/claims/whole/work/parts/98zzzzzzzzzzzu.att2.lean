/-! DEEDS OF TWO WORDS: an attribute read, its holder kept: op 45 (27, then 16) -/
section
variable {P : Nat → Prop} {T : cS} {gT : Nat} {Q : Nat → Prop} {β β' : Nat → Nat} {F : Nat → Nat → Nat → Prop} {loc par : Nat → Nat → Nat} {ty : Nat → Nat × Nat} {G : Nat → Nat → Nat → Nat × Nat × LL → Prop} {D D' K : List Nat} {z nn g0 g1 g3 g4 g5 gn d d' n m p q q' q1 k e jc o xx v rr t r0 s tp : Nat} {ac : List Value} {tq : Nat → Nat × Nat} {C r : List Lv} {x : Lv} {S S' S1 X W W1 Sc Sr : cS} {hi lo : Int64} {R : cS → Int32 → cS → Prop} {kd : Int32}
theorem tF_51 {k : Int32} (hT : tF r0 s S W) (ok : tOk W r0 s) (ok0 : tOk S r0 s) (hs : 108 ≤ s) : tF r0 s (wI 6151 k S) (wI 6151 k W) ∧ tOk (wI 6151 k W) r0 s := by
  obtain ⟨v2, v3, v4, v5, v6, v7, n, m, c1, c2, c3, c4⟩ := ok
  have ok' : tOk (wI 6151 k W) r0 s := ⟨v2, v3, v4, v5, v6, v7, n, m, c1, c2, c3, c4⟩
  obtain ⟨b2, b3, b4, b5, b6, b7, n', m', f1, f2, f3, f4⟩ := ok0
  obtain ⟨a1, a2, a3, a4, a5, a6, a7, a8, a9, a10⟩ := hT
  have e1 := tc_ref c1
  have e2 := tc_ref (S := wI 6151 k W) (r := r0) (t := s) (v2 := v2) (v3 := v3) (v4 := v4) (v5 := v5) (v6 := v6) (v7 := v7) (n := n) (m := m) c1
  have e3 := tc_ref f1
  have e4 := tc_ref (S := wI 6151 k S) (r := r0) (t := s) (v2 := b2) (v3 := b3) (v4 := b4) (v5 := b5) (v6 := b6) (v7 := b7) (n := n') (m := m') f1
  refine ⟨⟨a1, a2, a3, fun i hi => ⟨?_, (a4 i hi).2⟩, a5, a6, a7, a8, ?_, ?_⟩, ok'⟩
  · rw [rI, rI]
    split
    · rfl
    · exact (a4 i hi).1
  · rw [e4.1, e2.1]
    rw [e3.1, e1.1] at a9
    exact a9
  · rw [e4.2, e2.2]
    rw [e3.2, e1.2] at a10
    exact a10
theorem pshW_51 {k : Int32} {xa xb : Int64} : pshW tp kd xa xb (wI 6151 k S) = pshW tp kd xa xb S := by
  unfold pshW
  rw [wI_wI]
/-- a copy of the top item of the reference's stack -/
theorem dup_1 (h : CI F loc par ty G tq (x :: r) S) (hX : XR P T gT Q β F D z nn g0 g1 g3 g4 g5 gn tq (x :: r) S Sr) (h1 : 1 ≤ vH x) (hq1 : q1 < 2 ^ 20) : ∃ W1, Ans (d + 10) 400 [.ref 61, .int (nI 27), .int (nI 0)] (wA 95 r.length (nI q1) Sr) (some (.int 1)) W1 ∧ sFr 0 (wA 95 r.length (nI q1) Sr) W1 ∧ sFr (topC (x :: r) + offC (x :: r)) Sr (wA 95 r.length (nI (vQ x)) W1) ∧ sI W1 6151 = nI (topC (x :: r) + offC (x :: r) + 1) ∧ (sA W1 91 (topC (x :: r) + offC (x :: r)) = sA Sr 91 (topC (x :: r) + offC (x :: r) - 1) ∧ sL W1 92 (topC (x :: r) + offC (x :: r)) = sL Sr 92 (topC (x :: r) + offC (x :: r) - 1) ∧ sL W1 93 (topC (x :: r) + offC (x :: r)) = sL Sr 93 (topC (x :: r) + offC (x :: r) - 1)) := by
  obtain ⟨l1, l2, l3, l4, l5⟩ := CI_len h
  have hT := CI_T h
  obtain ⟨y0, y04, ya0, _⟩ := XR_k h hX (i := 0) (by omega)
  have h51 := XR_51 hX
  have h95 := (XR_top hX).2.1
  have e51 : sI (wA 95 r.length (nI q1) Sr) 6151 = nI (topC (x :: r) + offC (x :: r)) := h51
  rw [show topC (x :: r) + offC (x :: r) - 1 - 0 = topC (x :: r) + offC (x :: r) - 1 by omega] at ya0
  have t2 : 1 ≤ topC (x :: r) + offC (x :: r) := by omega
  generalize topC (x :: r) + offC (x :: r) = t at *
  obtain ⟨W1, A1, f1, i1, o1, p1, p2, p3⟩ := cpy_T (d := d) (Sr := wA 95 r.length (nI q1) Sr) (k := t - 1) (to := t) (by omega) (by omega) ya0 (by omega) (by omega)
  have e1 : sI W1 6151 = nI t := i1.trans e51
  have f2 : sFr t (wA 95 r.length (nI q1) Sr) (wI 6151 (nI (t + 1)) W1) := sFr_I (f1 t (Nat.le_refl _))
  exact ⟨wI 6151 (nI (t + 1)) W1, Ans.of (by rw [ml_400]; exact Nat.le_of_ble_eq_true rfl) (Bod.lv (by rfl) (rPl_29 (d := d + 1) (by omega) (by omega) rfl e51 (by omega) t2 A1 e1 (by omega))), sFr_I (f1 0 (Nat.zero_le _)), sFr_95 f2 h95, rIe _ _ _, p1, p2, p3⟩
theorem att45_R (h : CI F loc par ty G tq (x :: r) S) (hl : lob (vL x) ≤ vH x) (h1 : 1 ≤ vH x) (h6 : vH x + 1 ≤ 600) (hex : exX F tq (x :: r) S) (hF : F q 0 rr) (hq1 : q1 < 2 ^ 20) : opG F loc par ty G tq (d + 16) 217 [.ref 53, .int (nI 45), .int (nI q)] (rT2 (d + 16) r.length (nI q1) (nI (vQ x)) 27 16 rr) x r (vH x - 0 + 1, vU x, vL x) S := by
  have m217 := ml_217
  have m218 := ml_218
  have m400 := ml_400
  have m412 := ml_412
  obtain ⟨l1, l2, l3, l4, l5⟩ := CI_len h
  have hT := CI_T h
  obtain ⟨br1, br2⟩ := rr_lt hex hF
  have hcal : cCal S (x :: r) := h.2.2.2.2.1
  have hq4 : q < 4096 := by
    obtain ⟨_, _, _, _, _, _, _, _, _, _, _, _, _, _, _, hX⟩ := hex
    exact (XR_nm (XN_of hX) hF).1
  have goC : ∀ {e : Int32} {S'}, Bod (d + 13) 218 0 [(0, .ref 53), (1, .int (nI q)), (2, .int (nI 0))] [] S (some (.int e)) S' → Ans (d + 16) 217 [.ref 53, .int (nI 45), .int (nI q)] S (some (.int e)) S' := fun hb => Ans.of (by rw [m217]; exact Nat.le_of_ble_eq_true rfl) (Bod.lv (by rfl) (mA2_2 (d := d + 7) (by omega) rfl ((Ans.of (d := d + 13) (by rw [m218]; exact Nat.le_of_ble_eq_true rfl) (Bod.lv (by rfl) hb)).up (by omega))))
  have goR1 : ∀ {Sr : cS} {W : cS}, Bod (d + 13) 412 0 [(0, .ref 61), (1, .int (nI rr))] [] Sr (some (.int 1)) W → Ans (d + 16) 400 [.ref 61, .int (nI 16), .int (nI rr)] Sr (some (.int 1)) W := fun hb => Ans.of (by rw [m400]; exact Nat.le_of_ble_eq_true rfl) (Bod.lv (by rfl) (rPl_10 (d := d + 7) (by omega) (by omega) rfl ((Ans.of (d := d + 13) (by rw [m412]; exact Nat.le_of_ble_eq_true rfl) (Bod.lv (by rfl) hb)).up (by omega))))
  have goR0 : ∀ {Sr : cS} {W : cS}, Bod (d + 13) 412 0 [(0, .ref 61), (1, .int (nI rr))] [] Sr (some (.int 0)) W → Ans (d + 16) 400 [.ref 61, .int (nI 16), .int (nI rr)] Sr (some (.int 0)) W := fun hb => Ans.of (by rw [m400]; exact Nat.le_of_ble_eq_true rfl) (Bod.lv (by rfl) (rPl_11 (d := d + 7) (by omega) (by omega) rfl ((Ans.of (d := d + 13) (by rw [m412]; exact Nat.le_of_ble_eq_true rfl) (Bod.lv (by rfl) hb)).up (by omega))))
  obtain ⟨o, o1, o2, o3⟩ := mHS_o h.1 (i := topC (x :: r) - 1 - 0) (by omega)
  have qo := object_n (d := d + 10) (b := 0) l3 (by omega) (by omega) o2
  have et : topC (x :: r) - 0 + offC (x :: r) = topC (x :: r) + offC (x :: r) := by omega
  have two : ∀ {P T gT Q β D z nn g0 g1 g3 g4 g5 gn Sr}, XR P T gT Q β F D z nn g0 g1 g3 g4 g5 gn tq (x :: r) S Sr → ∃ W1, Ans (d + 16) 400 [.ref 61, .int (nI 27), .int (nI 0)] (wA 95 r.length (nI q1) Sr) (some (.int 1)) W1 ∧ sFr 0 (wA 95 r.length (nI q1) Sr) W1 ∧ sFr (topC (x :: r) + offC (x :: r)) Sr (wA 95 r.length (nI (vQ x)) W1) ∧ XN Q β F D z nn g0 g1 g3 g4 g5 S (wA 95 r.length (nI (vQ x)) W1) ∧ topO β (wA 95 r.length (nI (vQ x)) W1) (topC (x :: r) + offC (x :: r) + 1) (sL S 47 (topC (x :: r) - 1 - 0)) (sL S 48 (topC (x :: r) - 1 - 0)) ∧ sA (wA 95 r.length (nI (vQ x)) W1) 91 (topC (x :: r) + offC (x :: r)) = sA (wA 95 r.length (nI (vQ x)) W1) 91 (topC (x :: r) + offC (x :: r) - 1) ∧ sL (wA 95 r.length (nI (vQ x)) W1) 92 (topC (x :: r) + offC (x :: r)) = sL (wA 95 r.length (nI (vQ x)) W1) 92 (topC (x :: r) + offC (x :: r) - 1) := fun {P T gT Q β D z nn g0 g1 g3 g4 g5 gn Sr} hX => by
    obtain ⟨W1, a1, a2, a3, a4, a5, a6, a7⟩ := dup_1 (d := d + 6) h hX h1 hq1
    have v0 := XR_v hX (i := 0) (by omega)
    rw [show topC (x :: r) + offC (x :: r) - 1 - 0 = topC (x :: r) + offC (x :: r) - 1 by omega, ← a5, ← a6, ← a7] at v0
    obtain ⟨g1', g2', _⟩ := a3.2.2.2.2.2.2.2.2 (topC (x :: r) + offC (x :: r) - 1) (by omega)
    exact ⟨W1, a1, a2, a3, XN_s hX a3, ⟨v0, a4, by omega, by omega⟩, a5.trans g1'.symm, a6.trans g2'.symm⟩
  rcases att_B (d := d) h hF hq4 o2 o1 o3 (CI_k h (i := 0) (by omega)) with ⟨e, he, hA, hB⟩ | ⟨hh, e, hlh, h45, he, hA, hB⟩ | ⟨hh, e, fn, hlh, he, hlf, hf3, hol, h5, hfn, hA, hB⟩
  · refine Or.inr ⟨e, S, by omega, goC (hA 0 (by omega) qo), h, CFr.refl S, fun P T gT Q β D z nn g0 g1 g3 g4 g5 gn Sr hX => ?_⟩
    obtain ⟨W1, a1, a2, a3, a4, a5, _⟩ := two hX
    exact ⟨Q, β, D, nn, g0, g1, g3, g4, g5, gn, _, ⟨W1, a1, a2, goR0 (hB a4 a5)⟩, rIe _ _ _, XRe_I (XRe_W hX hcal hl a3) (Or.inl rfl)⟩
  · have okh := mHS_ok h.1 hh hlh.1 hlh.2.1
    obtain ⟨ov, v1, v2, v3⟩ := ent_o okh (mHS_cl h.1) hlh he
    have q3 : sA S 3 hh ≠ nI 7 := fun c => by
      unfold h_kd at h45
      rw [c] at h45
      exact absurd h45 (by decide)
    have hkv := (h.2.2.2.1 hh hlh).2.1 e he
    refine opG_give (v := 0) (dg := d + 4) h (by omega) (by omega) v2 v1 v3 ⟨hkv.2 q3, hkv.1⟩ (fun S' hg => goC (hA 0 (by omega) qo S' hg)) (fun P T gT Q β D z nn g0 g1 g3 g4 g5 gn Sr hX => ?_)
    obtain ⟨W1, a1, a2, a3, a4, a5, _⟩ := two hX
    obtain ⟨ev, a, b, hv, hb⟩ := hB a4 a5
    have hb' := goR1 hb
    rw [show topC (x :: r) + offC (x :: r) + 1 - 1 = topC (x :: r) + offC (x :: r) by omega] at hb'
    obtain ⟨p1, p2, p3, p4, p5⟩ := pshW_s (tp := topC (x :: r) + offC (x :: r)) (kd := nI ev) (xa := a) (xb := b) (S := wA 95 r.length (nI (vQ x)) W1)
    rw [et]
    exact ⟨_, ⟨W1, a1, a2, hb'⟩, a3.trans p1, p2, by rw [p3, p4, p5]; exact hv⟩
  · rcases new_L (d := d + 11) (dr := d + 3) (kd := 6) (i := nI 0) (y := fn) (u := o) (by omega) h (Or.inr hlf) (Or.inr hol) with ⟨hf, A⟩ | ⟨hlt, k, X, W, A, B, _, hN, ⟨w3, w7, w8, w9, w10⟩, hCI, _⟩
    · refine Or.inr ⟨8, S, by omega, goC ((hA 0 (by omega) qo).1 A), h, CFr.refl S, fun P T gT Q β D z nn g0 g1 g3 g4 g5 gn Sr hX => ?_⟩
      obtain ⟨W1, a1, a2, a3, a4, a5, a6, a7⟩ := two hX
      obtain ⟨S1, D', b1, b2⟩ := (new_D (d := d + 3) (kd := nI 6) h hX a3 a5.2.1 h1 a6 a7 hl).1 hf
      exact ⟨Q, β, D', nn, g0, g1, g3, g4, g5, gn, _, ⟨W1, a1, a2, goR0 ((hB a4 a5).1 _ b1)⟩, rIe _ _ _, b2⟩
    · have hlk := nbX_lk hN
      have hk1 := hlk.1
      have hk2 := hlk.2.1
      have hnk := hN.2.2.2.1
      have toW : ∀ j, lv S j → lv W j ∧ sA W 3 j = sA S 3 j := fun j hj => ⟨(hN.2.2.2.2.1 j).mpr (Or.inl hj), (hN.2.2.2.2.2.1 j hj).1⟩
      have hty : tyO F loc par ty W k := by
        refine ⟨fun c => ?_, fun c => ?_, fun c => ?_, fun c => ?_, fun _ => ⟨fn, o, w7, (toW fn hlf).1, by rw [(toW fn hlf).2]; exact hf3, w8, (toW o hol).1, by rw [(toW o hol).2]; exact h5⟩, fun c => ?_⟩
        · rw [w3] at c
          exact absurd c (by decide)
        · rw [w3] at c
          exact absurd c (by decide)
        · rw [w3] at c
          exact absurd c (by decide)
        · rw [w3] at c
          exact absurd c (by decide)
        · rw [w3] at c
          exact absurd c (by decide)
      have hCk := hCI ty (fun _ _ => rfl) hty
      obtain ⟨S', c1, c2, c3, c4⟩ := give_k (d := d + 4) (v := 0) (l2 := vL x) hCk hlk (Or.inl rfl) (by omega) (by omega)
      refine Or.inl ⟨S', goC ((hA 0 (by omega) qo).2 k X W S' (by omega) hk2 A B c1), fun p q => c2 p q, (hN.2.2.1.trans c3).wide, fun P T gT Q β D z nn g0 g1 g3 g4 g5 gn Sr hX => ?_⟩
      obtain ⟨W1, a1, a2, a3, a4, a5, a6, a7⟩ := two hX
      obtain ⟨r0, s, S1, D', r1, r2, r3, r4, r5, e51, b1, b8, lS, hS1⟩ := (new_D (d := d + 3) (kd := nI 6) h hX a3 a5.2.1 h1 a6 a7 hl).2 hlt
      obtain ⟨u1, u2, u3, u4, u5, u6, u7, u8, u9, u10, u11, u12, u13⟩ := rsT_f (kd := nI 6) r1 r3 r4
      obtain ⟨t108, _, Ns, tS⟩ := tOk_t r4
      obtain ⟨β', eb, eo⟩ : ∃ β' : Nat → Nat, β' k = r0 ∧ ∀ j, j ≠ k → β' j = β j := ⟨fun j => if j = k then r0 else β j, if_pos rfl, fun j hj => if_neg hj⟩
      have hyk : ∀ w, (w = 0 ∨ lv S w) → (w = 0 ∨ (1 ≤ w ∧ w ≤ 1500)) ∧ (w ≠ 0 → β' w = β w) := fun w hw => ⟨hw.imp id (fun c => ⟨c.1, c.2.1⟩), fun h0 => eo w (fun c => hnk (c ▸ hw.resolve_left h0))⟩
      obtain ⟨t, _, _, _, _, _, _, _, _, bt, tt1, tt2, t108', ⟨N, tS'⟩, _⟩ := HR_o hX.1 hlh
      obtain ⟨t', v2, v3, v4, v5, v6, v7, n, m, bt', t1', t2', _, ⟨N', tS''⟩, wr, wd, wl, wj, f0, f1, fnn, fv, f6, h87⟩ := HR_o r5.1 hlh
      have ett : t' = t := Option.some.inj (t1'.symm.trans (b8 _ _ tt1))
      subst ett
      obtain ⟨d1, d2, d3, d4, d5, d6, d7, d8, d9, d10, d11, d12, d13, d14, d15, d16, d17⟩ := wr
      have hve := fv e he
      obtain ⟨o', p1, p2, p3⟩ := vrel_ob hve
      have hf1 := hlf.1
      have hf2 := hlf.2.1
      have eo' : o' = fn := nI_j (by omega) (by omega) (p2.symm.trans hfn)
      subst eo'
      obtain ⟨_, _, ea⟩ := p3.resolve_left (fun c' => by omega)
      have hne : β hh ≠ r0 := fun c => by
        rw [c] at h87
        have h87' : sA S1 87 r0 = nI 1 := h87
        rw [r2] at h87'
        exact absurd h87' (by decide)
      have hwf : tWf Q S1 := r5.1.wf
      obtain ⟨e1, _⟩ := tF_o hwf u1 r1 r3 bt' hne
      obtain ⟨e2, e3⟩ := e1.2.2.2 t' t1'
      have hv4 : sV (rsT r0 s (nI 6) S1) (100 * t' + 4) = .ref v4 := by rw [(e2 4 (by omega)).2]; exact d6
      have hlv : sL (rsT r0 s (nI 6) S1) v4 e = lN (β o') := by rw [(e3 4 v4 (by omega) (by omega) d6).2]; exact ea
      have hb := (hB a4 a5).2 r0 s t' v4 n (rsT r0 s (nI 6) S1) r1 b1 (by rw [u9]; exact r3) t108 ⟨Ns, by rw [u10]; exact tS⟩ (by rw [u13 6151 (by omega)]; exact e51) (by rw [a3.2.1]; exact tt1) ⟨lS, by rw [u10, a3.1]; exact hS1⟩ hv4 d12 d16 (by omega) hlv
      obtain ⟨x1, x2⟩ := tF_I (j := 11) (q := nI (β o')) u1 u2 (by omega)
      obtain ⟨y1, y2⟩ := tF_I (j := 12) (q := nI (β o)) x1 x2 (by omega)
      obtain ⟨z1, z2⟩ := tF_51 (k := nI (topC (x :: r) + offC (x :: r))) y1 y2 r4 t108
      have ek0 : h_n W k = 0 := by
        unfold h_n h_z
        rw [w10, gN_nI (by omega)]
        split <;> rfl
      have hX2 := XR_nb h r5 hN r1 r2 r3 z1 z2 u7 eb eo (obR_0 (t := s) (by rw [rI, if_neg (by omega), rI, if_neg (by omega), rI, if_neg (by omega), w3]; exact u3) (by rw [rI, if_neg (by omega), rI, if_neg (by omega), rI, if_neg (by omega)]; exact u4) ek0 (by rw [eb]; exact z2) (by rw [eb]; exact r1) (by rw [eb]; exact u7) (by rw [w7, rI, if_neg (by omega), rI, if_neg (by omega), rIe, ← show lkI β o' = nI (β o') from if_neg (by omega)]; exact lkI_R (hyk o' (Or.inr hlf)).1 (hyk o' (Or.inr hlf)).2) (by rw [w8, rI, if_neg (by omega), rIe, ← show lkI β o = nI (β o) from if_neg (by have := hol.1; omega)]; exact lkI_R (hyk o (Or.inr hol)).1 (hyk o (Or.inr hol)).2) ⟨fun c => by rw [w3] at c; exact absurd c (by decide), fun c => by rw [w3] at c; exact absurd c (by decide)⟩)
      obtain ⟨D2, hX3⟩ := c4 P T gT Q β' D' z nn g0 g1 g3 g4 g5 gn _ hX2
      rw [eb, pshW_51] at hX3
      exact ⟨Q, β', D2, nn, g0, g1, g3, g4, g5, gn, _, ⟨W1, a1, a2, goR1 hb⟩, hX3⟩
end
