/-! DEEDS ON BOTH SIDES: the keys of a dict (a builtin) -/
section
variable {P : Nat → Prop} {T : cS} {gT : Nat} {Q : Nat → Prop} {β β' : Nat → Nat} {F : Nat → Nat → Nat → Prop} {loc par : Nat → Nat → Nat} {ty : Nat → Nat × Nat} {G : Nat → Nat → Nat → Nat × Nat × LL → Prop} {D D' K : List Nat} {z nn g0 g1 g3 g4 g5 gn d dr v o i k n nt t t0 r0 w sz : Nat} {tq : Nat → Nat × Nat} {C r : List Lv} {x : Lv} {S S' S1 X W Sc Sr : cS} {g : Nat → Nat} {l2 : LL} {hi lo kh kl a b : Int64} {kd : Int32} {l' : List (Nat × Nat)} {s : Nat}
theorem key_C (hl : lv S o) (hok : h_ok S o) (hw : c_width (h_kd S o) = 4) (hi : i < h_n S o) : Ans (d + 3) 232 [.ref 2, .int (nI o), .int (nI i)] S (some (.long (h_kh S o i))) S ∧ Ans (d + 3) 233 [.ref 2, .int (nI o), .int (nI i)] S (some (.long (h_kl S o i))) S := by
  obtain ⟨kd, z, a, N, h7, z3, h3, h10, ek, en, _, h11, er, ha, hs, hN, hl4⟩ := row_o hok (by omega)
  rw [en] at hi
  rw [ek] at hw
  unfold h_kh h_kl
  rw [er]
  rw [hw] at hl4
  exact ⟨keyHi_4 hl.1 hl.2.1 h3 h7 h10 h11 ha hs (by omega) hw hi (by omega) (by omega), keyLo_4 hl.1 hl.2.1 h3 h7 h10 h11 ha hs (by omega) hw hi (by omega) (by omega)⟩
theorem ck_obj {e : Nat} (h : c_kind hi = nI e) (he : e = 2 ∨ e = 3) : c_obj hi lo = nI 0 := by
  unfold c_obj
  rw [if_neg (fun c => by
    unfold c_kind at h
    rw [c] at h
    rcases he with e2 | e2
    · rw [e2] at h; exact absurd h (by decide)
    · rw [e2] at h; exact absurd h (by decide))]
  rfl
theorem kyl_loop {q : Nat} (hsz : sz ≤ 300) (rem : Nat) : ∀ {X : cS}, CIk k F loc par ty G tq (x :: r) X → lv X k → h_kd X k = 1 → h_n X k + rem ≤ 300 → lv X q → q ≠ k → h_kd X q = 2 → h_n X q = sz → rem ≤ sz → ∃ X', CIk k F loc par ty G tq (x :: r) X' ∧ lv X' k ∧ lv X' q ∧ h_n X' q = sz ∧ CFm X X' ∧ (∀ vv Sf, (∀ lv, sm_get lv 0 = some (.ref 49) → sm_get lv 1 = some (.int (nI q)) → sm_get lv 2 = some (.int (nI k)) → sm_get lv 3 = some (.int (nI sz)) → sm_get lv 4 = some (.int (nI sz)) → Bod (d + 8) 247 44 lv [] X' vv Sf) → ∀ lv, sm_get lv 0 = some (.ref 49) → sm_get lv 1 = some (.int (nI q)) → sm_get lv 2 = some (.int (nI k)) → sm_get lv 3 = some (.int (nI sz)) → sm_get lv 4 = some (.int (nI (sz - rem))) → Bod (d + 8) 247 44 lv [] X vv Sf) ∧ ∀ (P : Nat → Prop) (T : cS) (gT : Nat) (Q : Nat → Prop) (β : Nat → Nat) (D : List Nat) (z nn g0 g1 g3 g4 g5 gn : Nat) (Sr : cS), XR P T gT Q β F D z nn g0 g1 g3 g4 g5 gn tq (x :: r) X Sr → ∃ W, XR P T gT Q β F D z nn g0 g1 g3 g4 g5 gn tq (x :: r) X' W ∧ sQ W = sQ Sr ∧ ∀ ba s, ba < 2 ^ 20 → sQ Sr 86 (β q) = some s → ∀ vv Sf, (∀ lv, sm_get lv 0 = some (.ref 61) → sm_get lv 2 = some (.int (nI ba)) → sm_get lv 9 = some (.int (nI (β k))) → sm_get lv 10 = some (.ref s) → sm_get lv 11 = some (.int (nI sz)) → Bod (dr + 10) 380 421 lv [] W vv Sf) → ∀ lv, sm_get lv 0 = some (.ref 61) → sm_get lv 2 = some (.int (nI ba)) → sm_get lv 9 = some (.int (nI (β k))) → sm_get lv 10 = some (.ref s) → sm_get lv 11 = some (.int (nI (sz - rem))) → Bod (dr + 10) 380 421 lv [] Sr vv Sf := by
  induction rem with
  | zero =>
    intro X h hk k1 hn hq hqk q1 qn hle
    exact ⟨X, h, hk, hq, qn, CFm.refl X, fun vv Sf hc lv p0 p1 p2 p3 p4 => hc lv p0 p1 p2 p3 p4, fun P T gT Q β D z nn g0 g1 g3 g4 g5 gn Sr hX => ⟨Sr, hX, rfl, fun ba s _ _ vv Sf hc lv p0 p1 p2 p3 p4 => hc lv p0 p1 p2 p3 p4⟩⟩
  | succ rem ih =>
    intro X h hk k1 hn hq hqk q1 qn hle
    have hk2 := hk.2.1
    have hq2 := hq.2.1
    have hokq := mHS_ok h.1 q hq.1 hq.2.1
    have hii : sz - (rem + 1) < h_n X q := by omega
    have hw4 : c_width (h_kd X q) = 4 := by rw [q1]; rfl
    obtain ⟨qh, ql⟩ := key_C (d := d + 5) hq hokq hw4 hii
    have q3 : sA X 3 q = nI 2 := by
      obtain ⟨kd', zz, _, _, k3', _, hkd', _⟩ := kdz hokq
      rw [k3', ← hkd', q1]
    have hkk : c_kind (h_kh X q (sz - (rem + 1))) = nI 2 ∨ c_kind (h_kh X q (sz - (rem + 1))) = nI 3 := ((h.2.2.2.1 q hq).2).2 q3 _ hii
    have e0 : c_kind (h_kh X q (sz - (rem + 1))) ≠ 0 ∧ c_kind (h_kh X q (sz - (rem + 1))) ≠ nI 5 := by
      rcases hkk with c | c
      · rw [c]; exact ⟨by decide, by decide⟩
      · rw [c]; exact ⟨by decide, by decide⟩
    have eo : c_obj (h_kh X q (sz - (rem + 1))) (h_kl X q (sz - (rem + 1))) = nI 0 := by
      rcases hkk with c | c
      · exact ck_obj c (Or.inl rfl)
      · exact ck_obj c (Or.inr rfl)
    have w1 : c_width (h_kd X k) = 2 := by rw [k1]; rfl
    have m1 : c_most (h_kd X k) = 300 := by rw [k1]; rfl
    rcases appk_W (d := d + 4) (kh := 0) (kl := 0) h hk (Or.inl w1) (by omega) eo (Or.inl rfl) e0 (fun c => by omega) with ⟨c, _⟩ | ⟨_, W, A, hM, hW, hst, hn', hk', hev, hv1, hv2, _⟩
    · omega
    · have hkW : lv W k := (hM.2.2.2.2.2.1 k).mpr hk
      have hqW : lv W q := (hM.2.2.2.2.2.1 q).mpr hq
      have hEq : obE X W q := hM.2.2.1 q hq.1 hq.2.1 hqk
      have q1' : h_kd W q = 2 := by unfold h_kd; rw [hEq.1]; exact q1
      have qn' : h_n W q = sz := by
        rw [← qn]
        unfold h_n
        rw [q1', q1]
        unfold h_z
        rw [hEq.2.2.2.2.1]
      obtain ⟨X', i1, i2, i3, i4, i5, i8, i9⟩ := ih hW hkW (by omega) (by omega) hqW hqk q1' qn' (by omega)
      refine ⟨X', i1, i2, i3, i4, hM.2.1.trans i5, fun vv Sf hc lv p0 p1 p2 p3 p4 => ?_, fun P T gT Q β D z nn g0 g1 g3 g4 g5 gn Sr hX => ?_⟩
      · exact mKyL_2 p0 p1 p2 p3 p4 (by omega) (by omega) (by omega) (by omega) (by omega) qh ql A (fun lv1 a0 a1 a2 a3 a4 => i8 vv Sf hc lv1 a0 a1 a2 a3 (by rw [a4]; exact congrArg _ (congrArg _ (congrArg _ (by omega)))))
      · obtain ⟨t, v2, v3, v4, v5, v6, v7, n, m, bt, t1, t2, t108, ⟨N, tS⟩, wr, wd, wl, wj, f0, f1, fn, fv, fk, h87⟩ := HR_o hX.1 hq
        obtain ⟨fm, fk⟩ := fk hw4
        have hkey := fk _ hii
        rw [q1] at hkey
        unfold keyR at hkey
        rw [if_pos rfl] at hkey
        obtain ⟨hv, _, _⟩ := hkey
        obtain ⟨y, y4, ya, _⟩ := vr_k hv e0.1
        obtain ⟨tk, W', s1, s2, ⟨Nk, s3⟩, A', hX', sq, _⟩ := add_XR (d := dr) (kd := nI y) (a := sL Sr v6 (sz - (rem + 1))) (b := sL Sr v7 (sz - (rem + 1))) hX h.2.2.2.2.1 hM hk k1 (by omega) hst hn' hk' hev hv1 hv2 (by rw [← ya]; exact hv)
        obtain ⟨W'', j1, j2, j3⟩ := i9 P T gT Q β D z nn g0 g1 g3 g4 g5 gn W' hX'
        refine ⟨W'', j1, j2.trans sq, fun ba s hba hs vv Sf hc lv p0 p2 p9 p10 p11 => ?_⟩
        have est : s = t := Option.some.inj (hs.symm.trans t1)
        subst est
        obtain ⟨c1, c2, c3, c4, c5, c6, c7, c8, c9, c10, c11, c12, c13, c14, c15, c16, c17, _⟩ := wr
        have hb := (hX.1.ob hk).1
        exact rBt5L_2 (d := dr + 2) p0 p2 p9 p10 p11 (by omega) (by omega) (by omega) t108 tS (by rw [f1, qn]) (by omega) (by omega) hb s2 s1 c5 c11 c17 (by omega) ya (by omega) c8 c14 c17 (by omega) c9 c15 c17 (by omega) A' s3 (fun lv1 a0 a2 a9 a10 a11 => j3 ba s hba (by rw [sq]; exact hs) vv Sf hc lv1 a0 a2 a9 a10 (by rw [a11]; exact congrArg _ (congrArg _ (congrArg _ (by omega)))))
theorem keys_R (h : CI F loc par ty G tq (x :: r) S) (hx : vL x = ((i, 1) :: l', s)) (hi' : vH x - 2 ≤ i) (hl : lob (l', s) + 2 ≤ vH x) : opR F loc par ty G tq (d + 15) 247 [.ref 49] 380 [.ref 61, .int (nI 5), .int (nI (topC (x :: r) + offC (x :: r) - 2)), .int (nI 1)] x r (vH x - 2 + 1, vU x, (l', s)) S := by
  have m247 := ml_247
  have m380 := ml_380
  obtain ⟨l1, l2, l3, l4, l5⟩ := CI_len h
  have hT := CI_T h
  have hlab : labS 2 x (l', s) := Or.inr ⟨i, l', s, hx, hi', rfl⟩
  have eb : topC (x :: r) + offC (x :: r) - 1 - 0 = topC (x :: r) + offC (x :: r) - 2 + 1 := by omega
  obtain ⟨o, o1, o2, o3⟩ := mHS_o h.1 (i := topC (x :: r) - 1 - 0) (by omega)
  have qo := obk_C (d := d + 2) (nv := 0) (kd := 2) h (by omega) (by omega) (by omega) o1 o2 o3
  have bb : topC (x :: r) + offC (x :: r) - 2 < 2 ^ 20 := by omega
  have goC : ∀ {e : Int32} {S'}, Bod (d + 14) 247 0 [(0, .ref 49)] [] S (some (.int e)) S' → Ans (d + 15) 247 [.ref 49] S (some (.int e)) S' := fun hb => Ans.of (by rw [m247]; exact Nat.le_of_ble_eq_true rfl) (Bod.lv (by rfl) hb)
  have goR : ∀ {Sr : cS} {e : Int32} {W : cS}, Bod (d + 14) 380 0 [(0, .ref 61), (1, .int (nI 5)), (2, .int (nI (topC (x :: r) + offC (x :: r) - 2))), (3, .int (nI 1))] [] Sr (some (.int e)) W → Ans (d + 15) 380 [.ref 61, .int (nI 5), .int (nI (topC (x :: r) + offC (x :: r) - 2)), .int (nI 1)] Sr (some (.int e)) W := fun hb => Ans.of (by rw [m380]; exact Nat.le_of_ble_eq_true rfl) (Bod.lv (by rfl) hb)
  have his : ∀ {P T gT Q β D z nn g0 g1 g3 g4 g5 gn Sr}, XR P T gT Q β F D z nn g0 g1 g3 g4 g5 gn tq (x :: r) S Sr → (h_kd S o ≠ 2 → Ans (d + 14) 363 [.ref 61, .int (nI (topC (x :: r) + offC (x :: r) - 2 + 1)), .int (nI 2)] Sr (some (.int (nI 0))) Sr) ∧ (h_kd S o = 2 → lv S o ∧ Ans (d + 14) 363 [.ref 61, .int (nI (topC (x :: r) + offC (x :: r) - 2 + 1)), .int (nI 2)] Sr (some (.int (nI 1))) Sr ∧ ∀ t, sQ Sr 86 (β o) = some t → tOk Sr (β o) t → Ans (d + 14) 361 [.ref 61, .int (nI (topC (x :: r) + offC (x :: r) - 2 + 1))] Sr (some (.ref t)) Sr) := fun {P T gT Q β D z nn g0 g1 g3 g4 g5 gn Sr} hX => by
    have := XR_is (d := d + 5) h hX (ob_ := 0) (by omega) o2 o3 o1
    rw [eb] at this
    exact ⟨fun c => this.1 2 (Or.inr rfl) c, fun c => this.2 2 (Or.inr rfl) c⟩
  by_cases k2 : h_kd S o = 2
  · have hol : lv S o := by
      rcases o3 with e0 | h'
      · subst e0
        unfold h_kd at k2
        rw [CI_z0 h] at k2
        exact absurd k2 (by decide)
      · exact h'
    have ho1 := hol.1
    rw [if_pos k2] at qo
    have oko := mHS_ok h.1 o hol.1 hol.2.1
    have no := h_n_le oko
    rcases new_K (d := d + 12) (dr := d + 4) (kd := 1) (Or.inl rfl) h with ⟨hf, A⟩ | ⟨_, k, X, A, hk, hlk, k1, kn, cf, ⟨s47, s48⟩, hE, hR⟩
    · refine Or.inr ⟨8, S, by omega, goC (mKy_2 (d := d + 6) (by omega) qo (by omega) (by omega) A rfl), h, CFr.refl S, fun P T gT Q β D z nn g0 g1 g3 g4 g5 gn Sr hX => ?_⟩
      obtain ⟨S1, D', b1, b2⟩ := (new_R (d := d + 4) (kd := nI 1) h hX).1 hf
      exact ⟨Q, β, D', nn, g0, g1, g3, g4, g5, gn, _, goR (rBt5_2 (d := d + 6) bb (by omega) rfl ((his hX).2 k2).2.1 b1), rIe _ _ _, XRe_I (XR_XRe b2 (CI_lob h)) (Or.inl rfl)⟩
    · have hk1 := hlk.1
      have hk2 := hlk.2.1
      have hoX : lv X o := ⟨hol.1, hol.2.1, by rw [(hE o hol).1.1]; exact hol.2.2⟩
      have y1 : h_kd X o = 2 := by unfold h_kd; rw [(hE o hol).1.1]; exact k2
      have y2 : h_n X o = h_n S o := by
        unfold h_n
        rw [y1, k2]
        unfold h_z
        rw [(hE o hol).1.2.2.2.2.1]
      obtain ⟨X', i1, i2, i3, i4, i5, i8, i9⟩ := kyl_loop (d := d + 6) (dr := d + 4) (sz := h_n S o) no (h_n S o) hk hlk k1 (by omega) hoX (hE o hol).2 y1 y2 (Nat.le_refl _)
      obtain ⟨S', c1, c2, c3, c4⟩ := give_k (d := d + 5) (v := 2) (l2 := (l', s)) i1 i2 hlab hl (by omega)
      have c1' : Ans (d + 14) 148 [.ref 46, .int (nI 2), .long ((4611686018427387904)), .long ((nI k).toInt64)] X' (some (.int (nI 0))) S' := by rw [nI_ll (by omega)]; exact c1
      have okX := mHS_ok hk.1 o hol.1 hol.2.1
      have qs := sz_C (d := d + 12) hoX okX (Or.inr y1)
      rw [y2] at qs
      refine Or.inl ⟨S', goC (mKy_1 (d := d + 6) (by omega) qo (by omega) (by omega) A (by omega) (by omega) qs (fun lv1 p0 p1 p2 p3 p4 => i8 _ _ (fun lv2 q0 q1 q2 q3 q4 => mKyL_1 (d := d + 6) q0 q1 q2 q3 q4 (by omega) (by omega) (by omega) (by omega) (Nat.le_refl _) c1') lv1 p0 p1 p2 p3 (by rw [p4]; exact congrArg _ (congrArg _ (congrArg _ (by omega)))))), fun p q => c2 p q, ((cf.trans i5).trans c3).wide, fun P T gT Q β D z nn g0 g1 g3 g4 g5 gn Sr hX => ?_⟩
      obtain ⟨β', D', W, hb, B, hX', hβ, hq⟩ := hR P T gT Q β D z nn g0 g1 g3 g4 g5 gn Sr hX
      obtain ⟨W1, hX1, sq1, lp1⟩ := i9 P T gT Q β' D' z nn g0 g1 g3 g4 g5 gn W hX'
      obtain ⟨D2, hX3⟩ := c4 P T gT Q β' D' z nn g0 g1 g3 g4 g5 gn W1 hX1
      refine ⟨Q, β', D2, nn, g0, g1, g3, g4, g5, gn, _, goR ?_, hX3⟩
      obtain ⟨t, _, _, _, _, _, _, _, _, _, t1, t2, t108, tS, _⟩ := HR_o hX'.1 hoX
      obtain ⟨t', _, _, _, _, _, _, _, _, _, u1, _, _, ⟨N', u2⟩, _, _, _, _, _, u3, _⟩ := HR_o hX1.1 i3
      have et : t' = t := Option.some.inj (u1.symm.trans (by rw [sq1]; exact t1))
      subst et
      rw [i4] at u3
      have h361 : Ans (d + 14) 361 [.ref 61, .int (nI (topC (x :: r) + offC (x :: r) - 2 + 1))] W (some (.ref t')) W := by
        have hv := XR_v hX' (i := 0) (by omega)
        obtain ⟨o', p1, p2, p3⟩ := vrel_ob hv
        rw [s47, s48] at p2
        have eo : o' = o := nI_j (by omega) (by omega) (p2.symm.trans o2)
        subst eo
        obtain ⟨_, q1, q2⟩ := p3.resolve_left (fun c => by omega)
        rw [eb] at q1 q2
        exact tha_T (d := d + 5) (by omega) q1 q2 (hX'.1.ob hoX).1 t1 t2
      exact rBt5_1 (d := d + 6) (zg := 0) bb (by omega) rfl ((his hX).2 k2).2.1 hb B t108 h361 (fun lv1 p0 p2 p9 p10 p11 => lp1 _ t' bb t1 _ _ (fun lv2 q0 q2 q9 q10 q11 => rBt5L_1 (d := d + 6) q0 q2 q9 q10 q11 (by omega) (by omega) (by omega) t108 u2 u3 (by omega) (Nat.le_refl _) (by rw [nI_ll (by omega)]; exact rpsh_T (d := d + 5) (kd := nI 3) (xa := lN (β' k)) (xb := 0) (S := W1) (by omega))) lv1 p0 p2 p9 p10 (by rw [p11]; exact congrArg _ (congrArg _ (congrArg _ (by omega)))))
  · rw [if_neg k2] at qo
    exact opR_err (e := 2) h (by omega) (goC (mKy_3 (d := d + 6) (by omega) qo rfl)) (fun P T gT Q β D z nn g0 g1 g3 g4 g5 gn Sr hX => goR (rBt5_3 (d := d + 6) bb (by omega) rfl ((his hX).1 k2) (rfail_T (d := d + 5) 2 (by omega) Sr)))
end
