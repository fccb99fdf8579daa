/-! DEEDS ON BOTH SIDES: an item is put, whole -/
section
variable {P : Nat → Prop} {T : cS} {gT : Nat} {Q : Nat → Prop} {β : Nat → Nat} {F : Nat → Nat → Nat → Prop} {loc par : Nat → Nat → Nat} {ty : Nat → Nat × Nat} {G : Nat → Nat → Nat → Nat × Nat × LL → Prop} {D D' K : List Nat} {z nn g0 g1 g3 g4 g5 gn d v o t k e n m ob_ kb vb v2 v3 v4 v5 v6 v7 : Nat} {tq : Nat → Nat × Nat} {C r : List Lv} {x : Lv} {g : Nat → Nat} {Sc Sr S S' X W W0 : cS} {hi lo a b kh kl : Int64} {kd : Int32}
theorem put_R (h : CI F loc par ty G tq (x :: r) S) (hl : lob (vL x) + 3 ≤ vH x) (h1 : ob_ ≤ 2) (h2 : kb ≤ 2) (h3 : vb ≤ 2) : opR F loc par ty G tq (d + 14) 211 [.ref 53, .int (nI ob_), .int (nI kb), .int (nI vb)] 415 [.ref 61, .int (nI (topC (x :: r) + offC (x :: r) - 1 - ob_)), .int (nI (topC (x :: r) + offC (x :: r) - 1 - kb)), .int (nI (topC (x :: r) + offC (x :: r) - 1 - vb))] x r (vH x - 3, vU x, vL x) S := by
  have m211 := ml_211
  have m415 := ml_415
  obtain ⟨c1, c2, c3, c4, c5⟩ := CI_len h
  have hT := CI_T h
  obtain ⟨p, ⟨o, o1, o2, o3, o4⟩, hA⟩ := loc_C (d := d + 1) h (ob_ := ob_) (kb := kb) (by omega) (by omega)
  have qo := object_n (d := d + 10) (b := ob_) c3 (by omega) (by omega) o2
  have qv := hi_ev (d := d + 11) (b := vb) c3 (by omega) (by omega)
  have wv := lo_ev (d := d + 11) (b := vb) c3 (by omega) (by omega)
  have qk := hi_ev (d := d + 11) (b := kb) c3 (by omega) (by omega)
  have wk := lo_ev (d := d + 11) (b := kb) c3 (by omega) (by omega)
  obtain ⟨ov, ov1, ov2, ov3⟩ := mHS_o h.1 (i := topC (x :: r) - 1 - vb) (by omega)
  have h0 : c_kind (sL S 47 (topC (x :: r) - 1 - vb)) ≠ 0 ∧ c_kind (sL S 47 (topC (x :: r) - 1 - vb)) ≠ nI 5 := ⟨CI_k h (by omega), CI_n5 h (by omega)⟩
  have goC : ∀ {e : Int32} {S'}, Bod (d + 13) 211 0 [(0, .ref 53), (1, .int (nI ob_)), (2, .int (nI kb)), (3, .int (nI vb))] [] S (some (.int e)) S' → Ans (d + 14) 211 [.ref 53, .int (nI ob_), .int (nI kb), .int (nI vb)] S (some (.int e)) S' := fun h => Ans.of (by rw [m211]; exact Nat.le_of_ble_eq_true rfl) (Bod.lv (by rfl) h)
  have goR : ∀ {Sr e S'}, Bod (d + 13) 415 0 [(0, .ref 61), (1, .int (nI (topC (x :: r) + offC (x :: r) - 1 - ob_))), (2, .int (nI (topC (x :: r) + offC (x :: r) - 1 - kb))), (3, .int (nI (topC (x :: r) + offC (x :: r) - 1 - vb)))] [] Sr (some (.int e)) S' → Ans (d + 14) 415 [.ref 61, .int (nI (topC (x :: r) + offC (x :: r) - 1 - ob_)), .int (nI (topC (x :: r) + offC (x :: r) - 1 - kb)), .int (nI (topC (x :: r) + offC (x :: r) - 1 - vb))] Sr (some (.int e)) S' := fun h => Ans.of (by rw [m415]; exact Nat.le_of_ble_eq_true rfl) (Bod.lv (by rfl) h)
  have et : topC (x :: r) - 3 + offC (x :: r) = topC (x :: r) + offC (x :: r) - 3 := by omega
  have i0 : ∀ {a : Nat}, a ≤ 2 → topC (x :: r) + offC (x :: r) - 1 - a < 20480 := fun _ => by omega
  have t3 : 3 ≤ topC (x :: r) + offC (x :: r) := by omega
  -- where it is, in the reference
  have hloc : ∀ {P T gT Q β D z nn g0 g1 g3 g4 g5 gn Sr t}, XR P T gT Q β F D z nn g0 g1 g3 g4 g5 gn tq (x :: r) S Sr → (h_kd S o = 1 ∨ h_kd S o = 2) → lv S o → sQ Sr 86 (β o) = some t → tOk Sr (β o) t → Ans (d + 13) 410 [.ref 61, .ref t, .int (nI (topC (x :: r) + offC (x :: r) - 1 - kb))] Sr (some (.int (lcV p))) (lcW p Sr) := fun {P T gT Q β D z nn g0 g1 g3 g4 g5 gn Sr t} hX hk hol t1 t2 => by
    obtain ⟨ek, ek4, eka, ekk⟩ := XR_k h hX (i := kb) (by omega)
    exact loc_T (d := d + 1) (mHS_ok h.1 o hol.1 hol.2.1) (i0 h2) ek4 eka ekk (XR_v hX (by omega)) o4 hk (hX.1.ob hol) t1 t2
  cases p with
  | inr i =>
    obtain ⟨hk, hi2⟩ := lcQ_i o4
    have hol : lv S o := by
      rcases o3 with e0 | h'
      · subst e0
        unfold h_kd at hk
        rw [CI_z0 h] at hk
        exact absurd hk (by decide)
      · exact h'
    have hn3 := h_n_le (mHS_ok h.1 o hol.1 hol.2.1)
    obtain ⟨X, W, S', D0, A1, A2, hM, hCI, hst, hnX, hkX, hev, hek⟩ := set_C (d := d + 4) h hl hol hk hi2 ov2 ov3 h0
    refine Or.inl ⟨S', goC (mPi_4 (d := d + 5) (by omega) (by omega) (by omega) hA (by omega) (qo.up (by omega)) (qv.up (by omega)) (wv.up (by omega)) (lcC_i (by omega)).2 (A1.up (by omega)) (A2.up (by omega))), hCI, hM.2.1.wide, fun P T gT Q β D z nn g0 g1 g3 g4 g5 gn Sr hX => ?_⟩
    obtain ⟨t, v2, v3, v4, v5, v6, v7, n, m, b1, t1, t2, t108, ⟨N, tS⟩, wr, wd, wl, wj, f0, f1, fn, _, _, _⟩ := XR_o h hX hol
    obtain ⟨is0, is1⟩ := XR_is (d := d + 4) h hX (ob_ := ob_) (by omega) o2 o3 o1
    obtain ⟨ev, ev4, eva, _⟩ := XR_k h hX (i := vb) (by omega)
    have hv := XR_v hX (i := vb) (by omega)
    have hlo := hloc hX hk hol t1 t2
    obtain ⟨hHR, hTF⟩ := set_HR (e := i) (kd := nI ev) (a := sL Sr 92 (topC (x :: r) + offC (x :: r) - 1 - vb)) (b := sL Sr 93 (topC (x :: r) + offC (x :: r) - 1 - vb)) hX.1 hM hol t1 wr wd wl wj hi2 hnX hkX hev hek (by rw [← eva]; exact hv)
    have hXR := XR_mut hX h.2.2.2.2.1 hM b1 hTF t1 hHR (v := 3) (by omega) hst
    rw [et] at hXR
    refine ⟨Q, β, _, nn, g0, g1, g3, g4, g5, gn, _, ?_, hXR⟩
    have A3 := rset_T (d := d + 4) (kd := nI ev) (xa := sL Sr 92 (topC (x :: r) + offC (x :: r) - 1 - vb)) (xb := sL Sr 93 (topC (x :: r) + offC (x :: r) - 1 - vb)) wr (show i < n by omega)
    have e51 : sI (keyW i v2 v4 v5 (nI ev) (sL Sr 92 (topC (x :: r) + offC (x :: r) - 1 - vb)) (sL Sr 93 (topC (x :: r) + offC (x :: r) - 1 - vb)) Sr) 6151 = nI (topC (x :: r) + offC (x :: r)) := by
      have := XR_51 hX
      exact this
    rcases hk with hk | hk
    · obtain ⟨_, j1, j2⟩ := is1 1 (Or.inl rfl) hk
      exact goR (rSi_1 (d := d + 5) (by omega) (by omega) (by omega) j1 t108 (j2 t t1 t2) (by omega) hlo (i0 h3) eva (by omega) A3 tS e51 (by omega) t3)
    · obtain ⟨_, j1, j2⟩ := is1 2 (Or.inr rfl) hk
      exact goR (rSi_7 (d := d + 5) (by omega) (by omega) (by omega) (is0 1 (Or.inl rfl) (by omega)) j1 t108 (j2 t t1 t2) (by omega) hlo (i0 h3) eva (by omega) A3 tS e51 (by omega) t3)
  | inl e =>
    have he := lcQ_e o4
    by_cases e4 : e = 4
    · subst e4
      obtain ⟨hk, hkk⟩ := lcQ_4 o4
      have hol : lv S o := by
        rcases o3 with e0 | h'
        · subst e0
          unfold h_kd at hk
          rw [CI_z0 h] at hk
          exact absurd hk (by decide)
        · exact h'
      have hmost : c_most (h_kd S o) = 100 := by rw [hk]; rfl
      have hwid : c_width (h_kd S o) = 4 := by rw [hk]; rfl
      have e4' : lcC (.inl 4) = (Int8.ofInt (-4)).toInt32 := (lcC_4 4 (by omega) (by omega)).mpr rfl
      rcases app_C (d := d + 4) (v := 3) (kh := sL S 47 (topC (x :: r) - 1 - kb)) (kl := sL S 48 (topC (x :: r) - 1 - kb)) h hl hol (Or.inr hwid) (by omega) ov2 ov3 h0 (fun _ => hkk) with ⟨cf, A⟩ | ⟨cn, X, S', D0, A1, A2, hM, hCI, hst, hnX, hkX, hev, hv1, hv2, hek⟩
      · refine opR_err (e := 8) h (by omega) (goC (mPi_2 (d := d + 5) (by omega) (by omega) (by omega) hA (by omega) (qo.up (by omega)) (qv.up (by omega)) (wv.up (by omega)) (lcC_e (by omega)).2 e4' (qk.up (by omega)) (wk.up (by omega)) (A.up (by omega)))) (fun P T gT Q β D z nn g0 g1 g3 g4 g5 gn Sr hX => ?_)
        obtain ⟨t, v2, v3, v4, v5, v6, v7, n, m, b1, t1, t2, t108, ⟨N, tS⟩, wr, wd, wl, wj, f0, f1, fn, _, _, _⟩ := XR_o h hX hol
        obtain ⟨is0, is1⟩ := XR_is (d := d + 4) h hX (ob_ := ob_) (by omega) o2 o3 o1
        obtain ⟨_, j1, j2⟩ := is1 2 (Or.inr rfl) hk
        have hlo := hloc hX (Or.inr hk) hol t1 t2
        have h164 : ∀ i, i ≠ 6164 → sI (wI 6164 (nI 4) Sr) i = sI Sr i := fun i hi => if_neg hi
        have f0' : sI (wI 6164 (nI 4) Sr) (100 * t + 0) = nI 2 := by
          rw [h164 _ (by omega), f0]
          obtain ⟨kd, zz, k7, z3, k3, k10, hkd, hzz, hw⟩ := kdz (mHS_ok h.1 o hol.1 hol.2.1)
          rw [k3, show kd = 2 by omega]
        have f1' : sI (wI 6164 (nI 4) Sr) (100 * t + 1) = nI (h_n S o) := by rw [h164 _ (by omega)]; exact f1
        have A3 := rfail_T (d := d + 4) 8 (by omega) (wI 6164 (nI 4) Sr)
        rw [wI_wI] at A3
        exact goR (rSi_11 (d := d + 5) (by omega) (by omega) (by omega) (is0 1 (Or.inl rfl) (by omega)) j1 t108 (j2 t t1 t2) hlo tS f0' (by omega) (by omega) (rIe _ _ _) (by omega) rfl f1' (by omega) (by omega) A3)
      · refine Or.inl ⟨S', goC (mPi_1 (d := d + 5) (by omega) (by omega) (by omega) hA (by omega) (qo.up (by omega)) (qv.up (by omega)) (wv.up (by omega)) (lcC_e (by omega)).2 e4' (qk.up (by omega)) (wk.up (by omega)) (A1.up (by omega)) (A2.up (by omega))), hCI, hM.2.1.wide, fun P T gT Q β D z nn g0 g1 g3 g4 g5 gn Sr0 hX0 => ?_⟩
        have hX := XR_I (i := 6164) (n := nI 4) hX0 (Or.inl rfl)
        obtain ⟨t, _, _, _, _, _, _, _, _, _, t1, t2, t108, ⟨N, tS⟩, _, _, _, _, f0, f1, _, _, _, _⟩ := XR_o h hX0 hol
        obtain ⟨is0, is1⟩ := XR_is (d := d + 4) h hX0 (ob_ := ob_) (by omega) o2 o3 o1
        obtain ⟨_, j1, j2⟩ := is1 2 (Or.inr rfl) hk
        have hlo := hloc hX0 (Or.inr hk) hol t1 t2
        have h164 : ∀ i, i ≠ 6164 → sI (wI 6164 (nI 4) Sr0) i = sI Sr0 i := fun i hi => if_neg hi
        have f0' : sI (wI 6164 (nI 4) Sr0) (100 * t + 0) = nI 2 := by
          rw [h164 _ (by omega), f0]
          obtain ⟨kd, zz, k7, z3, k3, k10, hkd, hzz, hw⟩ := kdz (mHS_ok h.1 o hol.1 hol.2.1)
          rw [k3, show kd = 2 by omega]
        have e6 : sI (wI 6164 (nI 4) Sr0) 6164 = nI 4 := rIe _ _ _
        have eq86 : sQ (wI 6164 (nI 4) Sr0) 86 (β o) = some t := t1
        have eSS : sS (wI 6164 (nI 4) Sr0) = sS Sr0 := rfl
        have hlo' : Ans (d + 13) 410 [.ref 61, .ref t, .int (nI (topC (x :: r) + offC (x :: r) - 1 - kb))] Sr0 (some (.int (Int32.ofInt (-1)))) (wI 6164 (nI 4) Sr0) := hlo
        clear hlo
        rw [← eSS] at tS
        have f1' : sI (wI 6164 (nI 4) Sr0) (100 * t + 1) = nI (h_n S o) := by rw [h164 _ (by omega)]; exact f1
        have q2 := j2 t t1 t2
        have q3 := is0 1 (Or.inl rfl) (by omega)
        clear f0 f1 h164 is0 is1 j2 hX0
        generalize wI 6164 (nI 4) Sr0 = Sr at *
        obtain ⟨t', v2, v3, v4, v5, v6, v7, n, m, b1, t1', t2', _, _, wr, wd, wl, wj, _, _, fn, _, f6, h87⟩ := XR_o h hX hol
        have et' : t' = t := by
          rw [eq86] at t1'
          injection t1' with t1'
          exact t1'.symm
        subst et'
        obtain ⟨ev, ev4, eva, _⟩ := XR_k h hX (i := vb) (by omega)
        have hv := XR_v hX (i := vb) (by omega)
        obtain ⟨ek, ek4, eka, ekk⟩ := XR_k h hX (i := kb) (by omega)
        have hvk := XR_v hX (i := kb) (by omega)
        have e12 : ek = 1 ∨ ek = 2 := by
          rw [ekk] at hkk
          rcases hkk with c | c
          · left; have := nI_j (by omega) (by omega) c; omega
          · right; have := nI_j (by omega) (by omega) c; omega
        obtain ⟨fm, _⟩ := f6 hwid
        obtain ⟨S4, S5, w2, w3, w4, w5, w6, w7, n', m', A4, A5, A6, x91, x92, x93, y91, y92, y93, ⟨l4, s4⟩, ⟨l5, s5⟩, h87', hI, hI1, hok', hTF, hW, hn', hm', r1, r2, r2', r2'', r3, r4, r4', r4''⟩ := addk_R (d := d + 3) (kd := nI ev) (a := sL Sr 92 (topC (x :: r) + offC (x :: r) - 1 - vb)) (b := sL Sr 93 (topC (x :: r) + offC (x :: r) - 1 - vb)) (kk := nI ek) (ka := sL Sr 92 (topC (x :: r) + offC (x :: r) - 1 - kb)) (kb := if ek = 1 then 0 else sL Sr 93 (topC (x :: r) + offC (x :: r) - 1 - kb)) wr wd wl wj f1' fn fm (by omega) ⟨ek, by omega, rfl⟩
        have hkey : keyR β (keyW (h_n S o) w2 w4 w5 (nI ev) (sL Sr 92 (topC (x :: r) + offC (x :: r) - 1 - vb)) (sL Sr 93 (topC (x :: r) + offC (x :: r) - 1 - vb)) S5) g0 g1 nn (h_kd S o) (sL S 47 (topC (x :: r) - 1 - kb)) (sL S 48 (topC (x :: r) - 1 - kb)) (nI ek) (sL Sr 92 (topC (x :: r) + offC (x :: r) - 1 - kb)) (if ek = 1 then 0 else sL Sr 93 (topC (x :: r) + offC (x :: r) - 1 - kb)) := by
          unfold keyR
          rw [if_pos hk]
          rw [eka] at hvk
          rcases e12 with c | c
          · rw [if_pos c, c]
            obtain ⟨p1, p2⟩ := (vr_int hvk).2 (by rw [ekk, c])
            rw [p1, ← p2]
            exact ⟨vr_mk _, fun _ => rfl, Or.inl rfl⟩
          · rw [if_neg (by omega)]
            exact ⟨hvk, fun c2 => absurd (nI_j (by omega) (by omega) c2) (by omega), Or.inr (by rw [c])⟩
        have hHR := addk_HR hX.1 hM hol t1' hTF hok' hW wr hI hI1 (fun c => by
          unfold h_kd at hk
          rw [c] at hk
          exact absurd hk (by decide)) (by rw [h87']; exact h87) hn' (fun _ => hm') hnX hkX hev hv1 hv2 hek (by rw [← eva]; exact hv) r1 ⟨r2, r2', r2''⟩ (fun _ => r3) (fun _ => by rw [r4, r4', r4'']; exact hkey)
        have hXR := XR_mut hX h.2.2.2.2.1 hM b1 hTF t1' hHR (v := 3) (by omega) hst
        rw [et] at hXR
        have e51 : sI (keyW (h_n S o) w2 w4 w5 (nI ev) (sL Sr 92 (topC (x :: r) + offC (x :: r) - 1 - vb)) (sL Sr 93 (topC (x :: r) + offC (x :: r) - 1 - vb)) S5) 6151 = nI (topC (x :: r) + offC (x :: r)) := by
          have := XR_51 hX
          rw [hI 6151 (by omega)]
          exact this
        have k91 : sA S4 91 (topC (x :: r) + offC (x :: r) - 1 - kb) = nI ek := by rw [x91]; exact eka
        have k91' : sA S5 91 (topC (x :: r) + offC (x :: r) - 1 - vb) = nI ev := by rw [y91]; exact eva
        rw [← y92, ← y93] at A6 hXR e51
        refine ⟨Q, β, _, nn, g0, g1, g3, g4, g5, gn, _, ?_, hXR⟩
        have A6 := A6.up (show d + 3 + 9 ≤ d + 13 by omega)
        rcases e12 with c | c
        · rw [if_pos c, ← x92] at A5
          exact goR (rSi_10 (d := d + 5) (by omega) (by omega) (by omega) q3 j1 t108 q2 hlo' tS f0' (by omega) (by omega) e6 (by omega) rfl f1' (by omega) (by omega) A4 (i0 h2) k91 (by omega) c A5 (sS_old s4 tS) (i0 h3) k91' (by omega) A6 (sS_old s5 tS) e51 (by omega) t3)
        · rw [if_neg (by omega), ← x92, ← x93] at A5
          exact goR (rSi_9 (d := d + 5) (by omega) (by omega) (by omega) q3 j1 t108 q2 hlo' tS f0' (by omega) (by omega) e6 (by omega) rfl f1' (by omega) (by omega) A4 (i0 h2) k91 (by omega) (by omega) A5 (sS_old s4 tS) (i0 h3) k91' (by omega) A6 (sS_old s5 tS) e51 (by omega) t3)
    · refine opR_err (e := e) h (by omega) (goC ?_) (fun P T gT Q β D z nn g0 g1 g3 g4 g5 gn Sr hX => goR ?_)
      · have := mPi_3 (d := d + 5) (ob := ob_) (kb := kb) (vb := vb) (by omega) (by omega) (by omega) hA (by omega) (qo.up (by omega)) (qv.up (by omega)) (wv.up (by omega)) (lcC_e (by omega)).2 (fun c => e4 ((lcC_4 e (by omega) (by omega)).mp c))
        rw [show -(lcC (.inl e)) = nI e from k_nn e] at this
        exact this
      · obtain ⟨is0, is1⟩ := XR_is (d := d + 4) h hX (ob_ := ob_) (by omega) o2 o3 o1
        by_cases k1 : h_kd S o = 1
        · obtain ⟨hol, j1, j2⟩ := is1 1 (Or.inl rfl) k1
          obtain ⟨t, v2, v3, v4, v5, v6, v7, n, m, b1, t1, t2, t108, ⟨N, tS⟩, wr, wd, wl, wj, f0, f1, fn, _, _, _⟩ := XR_o h hX hol
          have f0' : sI (wI 6164 (nI e) Sr) (100 * t + 0) = nI 1 := by
            rw [show sI (wI 6164 (nI e) Sr) (100 * t + 0) = sI Sr (100 * t + 0) from if_neg (by omega), f0]
            obtain ⟨kd, zz, k7, z3, k3, k10, hkd, hzz, hw⟩ := kdz (mHS_ok h.1 o hol.1 hol.2.1)
            rw [k3, show kd = 1 by omega]
          exact rSi_2 (d := d + 5) (by omega) (by omega) (by omega) j1 t108 (j2 t t1 t2) (hloc hX (Or.inl k1) hol t1 t2) tS f0' (by omega) rfl
        · by_cases k2 : h_kd S o = 2
          · obtain ⟨hol, j1, j2⟩ := is1 2 (Or.inr rfl) k2
            obtain ⟨t, v2, v3, v4, v5, v6, v7, n, m, b1, t1, t2, t108, ⟨N, tS⟩, wr, wd, wl, wj, f0, f1, fn, _, _, _⟩ := XR_o h hX hol
            have f0' : sI (wI 6164 (nI e) Sr) (100 * t + 0) = nI 2 := by
              rw [show sI (wI 6164 (nI e) Sr) (100 * t + 0) = sI Sr (100 * t + 0) from if_neg (by omega), f0]
              obtain ⟨kd, zz, k7, z3, k3, k10, hkd, hzz, hw⟩ := kdz (mHS_ok h.1 o hol.1 hol.2.1)
              rw [k3, show kd = 2 by omega]
            exact rSi_12 (d := d + 5) (by omega) (by omega) (by omega) (is0 1 (Or.inl rfl) k1) j1 t108 (j2 t t1 t2) (hloc hX (Or.inr k2) hol t1 t2) tS f0' (by omega) (by omega) (rIe _ _ _) (by omega) e4
          · have := lcQ_n o4 k1 k2
            subst this
            exact rSi_13 (d := d + 5) (by omega) (by omega) (by omega) (is0 1 (Or.inl rfl) k1) (is0 2 (Or.inr rfl) k2) (rfail_T (d := d + 4) 2 (by omega) Sr)
end
