/-! DEEDS ON BOTH SIDES: an item behind a list's (the builtin) -/
section
variable {P : Nat → Prop} {T : cS} {gT : Nat} {Q : Nat → Prop} {β : Nat → Nat} {F : Nat → Nat → Nat → Prop} {loc par : Nat → Nat → Nat} {ty : Nat → Nat × Nat} {G : Nat → Nat → Nat → Nat × Nat × LL → Prop} {D K : List Nat} {z nn g0 g1 g3 g4 g5 gn d v o i : Nat} {tq : Nat → Nat × Nat} {r : List Lv} {x : Lv} {S S' Sc Sr : cS} {hi lo : Int64} {l' : List (Nat × Nat)} {s : Nat}
theorem obk_C {nv kd : Nat} (h : CI F loc par ty G tq (x :: r) S) (hnv : nv < vH x) (hkd : kd ≤ 7) (hk1 : 1 ≤ kd) (ho2 : o ≤ 1500) (ho : c_obj (sL S 47 (topC (x :: r) - 1 - nv)) (sL S 48 (topC (x :: r) - 1 - nv)) = nI o) (hol : o = 0 ∨ lv S o) : Ans (d + 12) 152 [.ref 46, .int (nI nv), .int (nI kd)] S (some (.int (nI (if h_kd S o = kd then o else 0)))) S := by
  have m := ml_152
  obtain ⟨l1, l2, l3, l4, l5⟩ := CI_len h
  have qo := object_n (d := d + 8) (b := nv) l3 (by omega) (by omega) ho
  obtain ⟨k7, ck⟩ := kind_C (d := d) h ho2 hol
  split
  · rename_i c
    exact Ans.of (by rw [m]; exact Nat.le_of_ble_eq_true rfl) (Bod.lv (by rfl) (mOb_2 (d := d + 3) (by omega) (by omega) (by omega) qo (by omega) ck c))
  · rename_i c
    exact Ans.of (by rw [m]; exact Nat.le_of_ble_eq_true rfl) (Bod.lv (by rfl) (mOb_1 (d := d + 3) (by omega) (by omega) (by omega) qo (by omega) ck c))
theorem psh_w {tp : Nat} {kd w : Int32} {xa xb : Int64} : pshW tp kd xa xb (wI 6151 w S) = pshW tp kd xa xb S := by
  unfold pshW
  rw [wI_wI]
theorem push_R (h : CI F loc par ty G tq (x :: r) S) (hx : vL x = ((i, 1) :: l', s)) (hi' : vH x - 3 = i) (hl : lob (l', s) + 3 ≤ vH x) : opR F loc par ty G tq (d + 15) 245 [.ref 49] 380 [.ref 61, .int (nI 3), .int (nI (topC (x :: r) + offC (x :: r) - 3)), .int (nI 2)] x r (vH x - 3 + 1, vU x, (l', s)) S := by
  have m245 := ml_245
  have m380 := ml_380
  obtain ⟨l1, l2, l3, l4, l5⟩ := CI_len h
  have hT := CI_T h
  have eb : topC (x :: r) + offC (x :: r) - 1 - 1 = topC (x :: r) + offC (x :: r) - 3 + 1 := by omega
  have ev : topC (x :: r) + offC (x :: r) - 1 - 0 = topC (x :: r) + offC (x :: r) - 3 + 2 := by omega
  obtain ⟨o, o1, o2, o3⟩ := mHS_o h.1 (i := topC (x :: r) - 1 - 1) (by omega)
  obtain ⟨ov, ov1, ov2, ov3⟩ := mHS_o h.1 (i := topC (x :: r) - 1 - 0) (by omega)
  have qo := obk_C (d := d + 2) (nv := 1) (kd := 1) h (by omega) (by omega) (by omega) o1 o2 o3
  have qv := hi_ev (d := d + 12) (b := 0) l3 (by omega) (by omega)
  have wv := lo_ev (d := d + 12) (b := 0) l3 (by omega) (by omega)
  have h0 : c_kind (sL S 47 (topC (x :: r) - 1 - 0)) ≠ 0 ∧ c_kind (sL S 47 (topC (x :: r) - 1 - 0)) ≠ nI 5 := ⟨CI_k h (by omega), CI_n5 h (by
    have : lob (vL x) = i + 1 := by rw [hx]; rfl
    omega)⟩
  have goC : ∀ {e : Int32} {S'}, Bod (d + 14) 245 0 [(0, .ref 49)] [] S (some (.int e)) S' → Ans (d + 15) 245 [.ref 49] S (some (.int e)) S' := fun hb => Ans.of (by rw [m245]; exact Nat.le_of_ble_eq_true rfl) (Bod.lv (by rfl) hb)
  have goR : ∀ {Sr : cS} {e : Int32} {W : cS}, Bod (d + 14) 380 0 [(0, .ref 61), (1, .int (nI 3)), (2, .int (nI (topC (x :: r) + offC (x :: r) - 3))), (3, .int (nI 2))] [] Sr (some (.int e)) W → Ans (d + 15) 380 [.ref 61, .int (nI 3), .int (nI (topC (x :: r) + offC (x :: r) - 3)), .int (nI 2)] Sr (some (.int e)) W := fun hb => Ans.of (by rw [m380]; exact Nat.le_of_ble_eq_true rfl) (Bod.lv (by rfl) hb)
  have bb : topC (x :: r) + offC (x :: r) - 3 < 2 ^ 20 := by omega
  have his : ∀ {P T gT Q β D z nn g0 g1 g3 g4 g5 gn Sr}, XR P T gT Q β F D z nn g0 g1 g3 g4 g5 gn tq (x :: r) S Sr → (h_kd S o ≠ 1 → Ans (d + 14) 363 [.ref 61, .int (nI (topC (x :: r) + offC (x :: r) - 3 + 1)), .int (nI 1)] Sr (some (.int (nI 0))) Sr) ∧ (h_kd S o = 1 → lv S o ∧ Ans (d + 14) 363 [.ref 61, .int (nI (topC (x :: r) + offC (x :: r) - 3 + 1)), .int (nI 1)] Sr (some (.int (nI 1))) Sr ∧ ∀ t, sQ Sr 86 (β o) = some t → tOk Sr (β o) t → Ans (d + 14) 361 [.ref 61, .int (nI (topC (x :: r) + offC (x :: r) - 3 + 1))] Sr (some (.ref t)) Sr) := fun {P T gT Q β D z nn g0 g1 g3 g4 g5 gn Sr} hX => by
    have := XR_is (d := d + 5) h hX (ob_ := 1) (by omega) o2 o3 o1
    rw [eb] at this
    exact ⟨fun c => this.1 1 (Or.inl rfl) c, fun c => this.2 1 (Or.inl rfl) c⟩
  by_cases k1 : h_kd S o = 1
  · have hol : lv S o := by
      rcases o3 with e0 | h'
      · subst e0
        unfold h_kd at k1
        rw [CI_z0 h] at k1
        exact absurd k1 (by decide)
      · exact h'
    have hn3 := h_n_le (mHS_ok h.1 o hol.1 hol.2.1)
    have hmost : c_most (h_kd S o) = 300 := by rw [k1]; rfl
    rw [if_pos k1] at qo
    have ho1 := hol.1
    rcases app_W (d := d + 10) (kh := 0) (kl := 0) h hol (Or.inl (by rw [k1]; rfl)) (by omega) ov2 ov3 h0 (fun c => by omega) with ⟨cf, A⟩ | ⟨cn, W, A1, hM, hW, hst, hnX, hkX, hev, hv1, hv2, _⟩
    · refine opR_err (e := 8) h (by omega) (goC (mPu_2 (d := d + 6) (by omega) qo (by omega) qv wv A)) (fun P T gT Q β D z nn g0 g1 g3 g4 g5 gn Sr hX => goR ?_)
      obtain ⟨t, v2, v3, v4, v5, v6, v7, n, m, b1, t1, t2, t108, ⟨N, tS⟩, wr, wd, wl, wj, f0, f1, fn, _, _, _⟩ := XR_o h hX hol
      obtain ⟨_, j1, j2⟩ := (his hX).2 k1
      exact rBt3_2 (d := d + 6) bb (by omega) rfl j1 t108 (j2 t t1 t2) tS f1 (by omega) (by omega) (rfail_T (d := d + 5) 8 (by omega) Sr)
    · obtain ⟨S', K, b1, b2, b3, b4, b5, b6, b7, b8⟩ := mgive_T (d := d + 5) (v := 3) (o := 0) (hi := 1152921504606846976) (lo := 0) hW.1 (show 3 ≤ topC (x :: r) by omega) (by omega) (if_neg (by decide)) (by omega) (Or.inl rfl) (Or.inl rfl) (fun k => by have := gC_le (C := x :: r) k; rw [List.length_cons] at this; omega)
      refine Or.inl ⟨S', goC (mPu_1 (d := d + 6) (by omega) qo (by omega) qv wv A1 b1), fun p q => CI_giveM hW b3 (by omega) b2 b4 b5 hx (by omega) hl (by omega) ⟨by decide, by decide⟩ p q, hM.2.1.wide.trans (CFr_KX b3), fun P T gT Q β D z nn g0 g1 g3 g4 g5 gn Sr hX => ?_⟩
      obtain ⟨t, v2, v3, v4, v5, v6, v7, n, m, bt, t1, t2, t108, ⟨N, tS⟩, wr, wd, wl, wj, f0, f1, fn, _, _, h87⟩ := XR_o h hX hol
      obtain ⟨_, j1, j2⟩ := (his hX).2 k1
      obtain ⟨y, y4, ya, _⟩ := XR_k h hX (i := 0) (by omega)
      have hv := XR_v hX (i := 0) (by omega)
      rw [ev] at ya hv
      obtain ⟨W4, A4, u2, u4, u5, n', t4, d4, n4, i4, o4, x4, y4', z4, e3, e6, e7, eA4, eL4, eI4, ⟨l4, eS4⟩, ln4, F4⟩ := radd_T (d := d + 4) (kd := nI y) (xa := sL Sr 92 (topC (x :: r) + offC (x :: r) - 3 + 2)) (xb := sL Sr 93 (topC (x :: r) + offC (x :: r) - 3 + 2)) wr wd f1 fn (by omega) wl
      have hok4 : tOk W4 (β o) t := ⟨u2, v3, u4, u5, v6, v7, n', m, t4, d4, ln4, fun j hj => by rw [e3]; exact wj j hj⟩
      have hg2 : 108 ≤ v2 := wr.2.2.2.2.2.2.2.2.2.2.2.2.2.2.2.2.2.1
      have k3 : sA S 3 o ≠ nI 3 := fun c => by
        unfold h_kd at k1
        rw [c] at k1
        exact absurd k1 (by decide)
      have w2 : c_width (h_kd S o) ≠ 4 := by rw [k1]; decide
      have hHR := addk_HR (kh := 0) (kl := 0) hX.1 hM hol t1 F4 hok4 t4 wr eI4 i4 k3 (by rw [eA4 87 (by omega) (by omega)]; exact h87) n4 (fun c => absurd c w2) hnX hkX hev hv1 hv2 (fun c => absurd c w2) (by rw [← ya]; exact hv) o4 ⟨x4, y4', z4⟩ (fun c => absurd c w2) (fun c => absurd c w2)
      have hXW := XR_mut (v := 0) hX h.2.2.2.2.1 hM bt F4 t1 hHR (by omega) (fun i _ => hst i)
      rw [Nat.sub_zero, Nat.sub_zero] at hXW
      have hXW' : XR P T gT Q β F (D ++ ([] : List Nat).map β) z nn g0 g1 g3 g4 g5 gn tq (x :: r) W (wI 6151 (nI (topC (x :: r) + offC (x :: r))) W4) := hXW
      have et : topC (x :: r) - 3 + offC (x :: r) = topC (x :: r) + offC (x :: r) - 3 := by omega
      obtain ⟨p1, p2, p3, p4, p5⟩ := pshW_s (tp := topC (x :: r) + offC (x :: r) - 3) (kd := nI 0) (xa := 0) (xb := 0) (S := wI 6151 (nI (topC (x :: r) + offC (x :: r))) W4)
      rw [psh_w] at p1 p2 p3 p4 p5
      have hg := XR_give (v := 3) (hi := 1152921504606846976) (lo := 0) (tp := topC (x :: r) + offC (x :: r) - 3) hXW' (mHS_cl hW.1) (mHS_ok hW.1) hW.2.2.2.2.1 b3 (by omega) b4 b5 b6 et.symm p1 p2 (by rw [p3]; exact Or.inr (Or.inl ⟨rfl, rfl, rfl⟩))
      rw [hx] at hg
      refine ⟨Q, β, _, nn, g0, g1, g3, g4, g5, gn, _, ?_, XR_drop hg⟩
      exact goR (rBt3_1 (d := d + 6) bb (by omega) rfl j1 t108 (j2 t t1 t2) tS f1 (by omega) (by omega) t108 (j2 t t1 t2) (by omega) ya (by omega) A4 tS (rpsh_T (d := d + 5) (by omega)))
  · rw [if_neg k1] at qo
    exact opR_err (e := 2) h (by omega) (goC (mPu_3 (d := d + 6) (by omega) qo rfl)) (fun P T gT Q β D z nn g0 g1 g3 g4 g5 gn Sr hX => goR (rBt3_3 (d := d + 6) bb (by omega) rfl ((his hX).1 k1) (rfail_T (d := d + 5) 2 (by omega) Sr)))
end
