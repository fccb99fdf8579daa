/-! DEEDS ON BOTH SIDES: items put and gone, as the machine's operations -/
section
variable {P : Nat → Prop} {T : cS} {gT : Nat} {Q : Nat → Prop} {β : Nat → Nat} {F : Nat → Nat → Nat → Prop} {loc par : Nat → Nat → Nat} {ty : Nat → Nat × Nat} {G : Nat → Nat → Nat → Nat × Nat × LL → Prop} {D D' K : List Nat} {z nn g0 g1 g3 g4 g5 gn d v o t k e n m ob_ kb vb v2 v3 v4 v5 v6 v7 xx : Nat} {tq : Nat → Nat × Nat} {C r : List Lv} {x : Lv} {g : Nat → Nat} {Sc Sr S S' X W W0 : cS} {hi lo a b kh kl : Int64} {kd : Int32} {p : Sum Nat Nat}
theorem lcQ_l (h : lcQ S o hi lo p) (hz : sA S 3 0 = 0) (hk : h_kd S o = 1 ∨ h_kd S o = 2) (o3 : o = 0 ∨ lv S o) : lv S o := by
  rcases o3 with e0 | h'
  · subst e0
    unfold h_kd at hk
    rw [hz] at hk
    exact absurd hk (by decide)
  · exact h'
theorem delT_R (h : CI F loc par ty G tq (x :: r) S) (hl : lob (vL x) + 2 ≤ vH x) : opR F loc par ty G tq (d + 14) 212 [.ref 53] 417 [.ref 61] x r (vH x - 2, vU x, vL x) S := by
  have m212 := ml_212
  have m417 := ml_417
  obtain ⟨c1, c2, c3, c4, c5⟩ := CI_len h
  have hT := CI_T h
  obtain ⟨p, ⟨o, o1, o2, o3, o4⟩, hA⟩ := loc_C (d := d + 1) h (ob_ := 1) (kb := 0) (by omega) (by omega)
  have qo := object_n (d := d + 10) (b := 1) c3 (by omega) (by omega) o2
  have goC : ∀ {e : Int32} {S'}, Bod (d + 13) 212 0 [(0, .ref 53)] [] S (some (.int e)) S' → Ans (d + 14) 212 [.ref 53] S (some (.int e)) S' := fun h => Ans.of (by rw [m212]; exact Nat.le_of_ble_eq_true rfl) (Bod.lv (by rfl) h)
  have goR : ∀ {Sr e S'}, Bod (d + 13) 417 0 [(0, .ref 61)] [] Sr (some (.int e)) S' → Ans (d + 14) 417 [.ref 61] Sr (some (.int e)) S' := fun h => Ans.of (by rw [m417]; exact Nat.le_of_ble_eq_true rfl) (Bod.lv (by rfl) h)
  have et : topC (x :: r) - 2 + offC (x :: r) = topC (x :: r) + offC (x :: r) - 2 := by omega
  have e1 : topC (x :: r) + offC (x :: r) - 1 - 1 = topC (x :: r) + offC (x :: r) - 2 := by omega
  have e0 : topC (x :: r) + offC (x :: r) - 1 - 0 = topC (x :: r) + offC (x :: r) - 1 := by omega
  have t2 : 2 ≤ topC (x :: r) + offC (x :: r) := by omega
  have hloc : ∀ {P T gT Q β D z nn g0 g1 g3 g4 g5 gn Sr t}, XR P T gT Q β F D z nn g0 g1 g3 g4 g5 gn tq (x :: r) S Sr → (h_kd S o = 1 ∨ h_kd S o = 2) → lv S o → sQ Sr 86 (β o) = some t → tOk Sr (β o) t → Ans (d + 13) 410 [.ref 61, .ref t, .int (nI (topC (x :: r) + offC (x :: r) - 1))] Sr (some (.int (lcV p))) (lcW p Sr) := fun {P T gT Q β D z nn g0 g1 g3 g4 g5 gn Sr t} hX hk hol t1 t2 => by
    obtain ⟨ek, ek4, eka, ekk⟩ := XR_k h hX (i := 0) (by omega)
    have := loc_T (d := d + 1) (mHS_ok h.1 o hol.1 hol.2.1) (show topC (x :: r) + offC (x :: r) - 1 - 0 < 20480 by omega) ek4 eka ekk (XR_v hX (by omega)) o4 hk (hX.1.ob hol) t1 t2
    rw [e0] at this
    exact this
  have his : ∀ {P T gT Q β D z nn g0 g1 g3 g4 g5 gn Sr}, XR P T gT Q β F D z nn g0 g1 g3 g4 g5 gn tq (x :: r) S Sr → (∀ kq, kq = 1 ∨ kq = 2 → h_kd S o ≠ kq → Ans (d + 13) 363 [.ref 61, .int (nI (topC (x :: r) + offC (x :: r) - 2)), .int (nI kq)] Sr (some (.int (nI 0))) Sr) ∧ ∀ kq, kq = 1 ∨ kq = 2 → h_kd S o = kq → lv S o ∧ Ans (d + 13) 363 [.ref 61, .int (nI (topC (x :: r) + offC (x :: r) - 2)), .int (nI kq)] Sr (some (.int (nI 1))) Sr ∧ ∀ t, sQ Sr 86 (β o) = some t → tOk Sr (β o) t → Ans (d + 13) 361 [.ref 61, .int (nI (topC (x :: r) + offC (x :: r) - 2))] Sr (some (.ref t)) Sr := fun {P T gT Q β D z nn g0 g1 g3 g4 g5 gn Sr} hX => by
    have := XR_is (d := d + 4) h hX (ob_ := 1) (by omega) o2 o3 o1
    rw [e1] at this
    exact this
  cases p with
  | inr i =>
    obtain ⟨hk, hi2⟩ := lcQ_i o4
    have hol := lcQ_l o4 (CI_z0 h) hk o3
    have hn3 := h_n_le (mHS_ok h.1 o hol.1 hol.2.1)
    have hwid : c_width (h_kd S o) = 2 ∨ c_width (h_kd S o) = 4 := by
      rcases hk with c | c
      · rw [c]; left; rfl
      · rw [c]; right; rfl
    obtain ⟨X, W, S', D0, A1, A2, hM, hCI, hst, hnX, hkX, hev, hek⟩ := del_C (d := d + 4) (v := 2) h hl hol hwid (by omega) hi2
    refine Or.inl ⟨S', goC (mDi_1 (d := d + 5) hA (lcC_i (by omega)).1 (by omega) (qo.up (by omega)) (A1.up (by omega)) (A2.up (by omega))), hCI, hM.2.1.wide, fun P T gT Q β D z nn g0 g1 g3 g4 g5 gn Sr hX => ?_⟩
    obtain ⟨t, v2, v3, v4, v5, v6, v7, n, m, b1, t1, t2', t108, ⟨N, tS⟩, wr, wd, wl, wj, f0, f1, fn, f5, _, _⟩ := XR_o h hX hol
    obtain ⟨is0, is1⟩ := his hX
    have hlo := hloc hX hk hol t1 t2'
    obtain ⟨zz, hzz⟩ : ∃ zz, h_n S o = zz + 1 := ⟨h_n S o - 1, by omega⟩
    rw [hzz] at f1
    have hvk := CI_vk h
    obtain ⟨W0, A3, wr', hq⟩ := rremove_T (d := d + 1) (a0 := i) wr wd f1 (by omega) (by omega) (fun j hj => by
      obtain ⟨ev, ev4, eva, _⟩ := vr_k (f5 j (by omega)) (hvk o j hol (by omega) hk)
      exact ⟨ev, by omega, eva⟩) wj
    obtain ⟨hHR, hTF⟩ := del_HR hX.1 hM hol t1 wr wd wl wj wr' hq hzz (by omega) (by omega) hkX (fun i hi' => hev i (by omega)) (fun hw i hi' => hek hw i (by omega))
    have hXR := XR_mut hX h.2.2.2.2.1 hM b1 hTF t1 hHR (v := 2) (by omega) hst
    rw [et] at hXR
    refine ⟨Q, β, _, nn, g0, g1, g3, g4, g5, gn, _, ?_, hXR⟩
    have e51 : sI W0 6151 = nI (topC (x :: r) + offC (x :: r)) := by
      have := XR_51 hX
      rw [hq.2.2.2.2.2.2.2.2.1]
      exact (if_neg (by omega)).trans this
    have A3' := A3.up (show d + 1 + 11 ≤ d + 13 by omega)
    rcases hk with hk | hk
    · obtain ⟨_, j1, j2⟩ := is1 1 (Or.inl rfl) hk
      exact goR (rDi_1 (d := d + 5) (zg := 0) (XR_51 hX) (by omega) t2 j1 t108 (j2 t t1 t2') (XR_51 hX) (by omega) (by omega) (by omega) hlo t108 (j2 t t1 t2') A3' tS e51 (by omega) t2)
    · obtain ⟨_, j1, j2⟩ := is1 2 (Or.inr rfl) hk
      exact goR (rDi_3 (d := d + 5) (zg := 0) (XR_51 hX) (by omega) t2 (is0 1 (Or.inl rfl) (by omega)) j1 t108 (j2 t t1 t2') (XR_51 hX) (by omega) (by omega) (by omega) hlo t108 (j2 t t1 t2') A3' tS e51 (by omega) t2)
  | inl e =>
    have he := lcQ_e o4
    refine opR_err (e := e) h (by omega) (goC ?_) (fun P T gT Q β D z nn g0 g1 g3 g4 g5 gn Sr hX => goR ?_)
    · have := mDi_2 (d := d + 5) hA (lcC_e (by omega)).1
      rw [show -(lcC (.inl e)) = nI e from k_nn e] at this
      exact this
    · obtain ⟨is0, is1⟩ := his hX
      by_cases k1 : h_kd S o = 1
      · obtain ⟨hol, j1, j2⟩ := is1 1 (Or.inl rfl) k1
        obtain ⟨t, v2, v3, v4, v5, v6, v7, n, m, b1, t1, t2', t108, ⟨N, tS⟩, _⟩ := XR_o h hX hol
        exact rDi_2 (d := d + 5) (zg := 0) (XR_51 hX) (by omega) t2 j1 t108 (j2 t t1 t2') (XR_51 hX) (by omega) (by omega) (hloc hX (Or.inl k1) hol t1 t2')
      · by_cases k2 : h_kd S o = 2
        · obtain ⟨hol, j1, j2⟩ := is1 2 (Or.inr rfl) k2
          obtain ⟨t, v2, v3, v4, v5, v6, v7, n, m, b1, t1, t2', t108, ⟨N, tS⟩, _⟩ := XR_o h hX hol
          exact rDi_4 (d := d + 5) (zg := 0) (XR_51 hX) (by omega) t2 (is0 1 (Or.inl rfl) k1) j1 t108 (j2 t t1 t2') (XR_51 hX) (by omega) (by omega) (hloc hX (Or.inr k2) hol t1 t2')
        · have := lcQ_n o4 k1 k2
          subst this
          exact rDi_5 (d := d + 5) (XR_51 hX) (by omega) t2 (is0 1 (Or.inl rfl) k1) (is0 2 (Or.inr rfl) k2) (rfail_T (d := d + 4) 2 (by omega) Sr)
/-- an item goes: op 43 of the class, 25 of the reference -/
theorem del_R (h : CI F loc par ty G tq (x :: r) S) (hl : lob (vL x) + 2 ≤ vH x) (hx : xx < 2 ^ 20) : opR F loc par ty G tq (d + 16) 189 [.ref 53, .int (nI 43)] 400 [.ref 61, .int (nI 25), .int (nI xx)] x r (vH x - 2, vU x, vL x) S := by
  have m189 := ml_189
  have m400 := ml_400
  refine opR_ur (d := d + 15) (opR_up (delT_R (d := d) h hl) (by omega) (fun rb S' hA => Ans.of (by rw [m189]; exact Nat.le_of_ble_eq_true rfl) (Bod.lv (by rfl) (mAc_22 (d := d + 6) (op := 43) (by omega) rfl hA)))) (by omega) (fun b Sr W hb hA => ?_)
  rcases hb with rfl | rfl
  · exact Ans.of (by rw [m400]; exact Nat.le_of_ble_eq_true rfl) (Bod.lv (by rfl) (rPl_26 (d := d + 7) (op := 25) (by omega) hx rfl hA))
  · exact Ans.of (by rw [m400]; exact Nat.le_of_ble_eq_true rfl) (Bod.lv (by rfl) (rPl_25 (d := d + 7) (op := 25) (by omega) hx rfl hA))
/-- a deed of the reference that another calls, which looks at how much lies there -/
theorem opR_ux {d' jc jr jr' : Nat} {ac ar ar' : List Value} {s' : Nat × Nat × LL} (h : opR F loc par ty G tq d jc ac jr ar x r s' S) (hd : d ≤ d') (hw : ∀ b Sr W, (b = 0 ∨ b = 1) → sI Sr 6151 = nI (topC (x :: r) + offC (x :: r)) → Ans d jr ar Sr (some (.int b)) W → Ans d' jr' ar' Sr (some (.int b)) W) : opR F loc par ty G tq d' jc ac jr' ar' x r s' S := by
  rcases h with ⟨S', h1, h2, h3, h4⟩ | ⟨e, S', he, h1, h2, h3, h4⟩
  · refine Or.inl ⟨S', h1.up hd, h2, h3, fun P T gT Q β D z nn g0 g1 g3 g4 g5 gn Sr hX => ?_⟩
    obtain ⟨Q', β', D', nn', h0, h1, h3, h4, h5, hn, W, w1, w2⟩ := h4 P T gT Q β D z nn g0 g1 g3 g4 g5 gn Sr hX
    exact ⟨Q', β', D', nn', h0, h1, h3, h4, h5, hn, W, hw _ _ _ (Or.inr rfl) (XR_51 hX) w1, w2⟩
  · refine Or.inr ⟨e, S', he, h1.up hd, h2, h3, fun P T gT Q β D z nn g0 g1 g3 g4 g5 gn Sr hX => ?_⟩
    obtain ⟨Q', β', D', nn', h0, h1, h3, h4, h5, hn, W, w1, w2⟩ := h4 P T gT Q β D z nn g0 g1 g3 g4 g5 gn Sr hX
    exact ⟨Q', β', D', nn', h0, h1, h3, h4, h5, hn, W, hw _ _ _ (Or.inl rfl) (XR_51 hX) w1, w2⟩
/-- an item put: op 41 of the class, 21 of the reference -/
theorem put41_R (h : CI F loc par ty G tq (x :: r) S) (hl : lob (vL x) + 3 ≤ vH x) (hx : xx < 2 ^ 20) : opR F loc par ty G tq (d + 16) 189 [.ref 53, .int (nI 41)] 400 [.ref 61, .int (nI 21), .int (nI xx)] x r (vH x - 3, vU x, vL x) S := by
  have m189 := ml_189
  have m400 := ml_400
  obtain ⟨c1, c2, c3, c4, c5⟩ := CI_len h
  have hT := CI_T h
  have hp := put_R (d := d) (ob_ := 1) (kb := 0) (vb := 2) h hl (by omega) (by omega) (by omega)
  rw [show topC (x :: r) + offC (x :: r) - 1 - 1 = topC (x :: r) + offC (x :: r) - 2 by omega, show topC (x :: r) + offC (x :: r) - 1 - 0 = topC (x :: r) + offC (x :: r) - 1 by omega, show topC (x :: r) + offC (x :: r) - 1 - 2 = topC (x :: r) + offC (x :: r) - 3 by omega] at hp
  have hu := opR_up (d' := d + 15) (jc' := 189) (ac' := [.ref 53, .int (nI 41)]) hp (by omega) (fun rb S' hA => Ans.of (by rw [m189]; exact Nat.le_of_ble_eq_true rfl) (Bod.lv (by rfl) (mAc_20 (d := d + 6) (op := 41) (by omega) rfl hA)))
  refine opR_ux hu (by omega) (fun b Sr W hb h51 hA => ?_)
  rcases hb with rfl | rfl
  · exact Ans.of (by rw [m400]; exact Nat.le_of_ble_eq_true rfl) (Bod.lv (by rfl) (rPl_18 (d := d + 7) (op := 21) (by omega) hx rfl h51 (by omega) (by omega) (by omega) (by omega) hA))
  · exact Ans.of (by rw [m400]; exact Nat.le_of_ble_eq_true rfl) (Bod.lv (by rfl) (rPl_17 (d := d + 7) (op := 21) (by omega) hx rfl h51 (by omega) (by omega) (by omega) (by omega) hA))
/-- an item put: op 42 of the class, 23 of the reference -/
theorem put42_R (h : CI F loc par ty G tq (x :: r) S) (hl : lob (vL x) + 3 ≤ vH x) (hx : xx < 2 ^ 20) : opR F loc par ty G tq (d + 16) 189 [.ref 53, .int (nI 42)] 400 [.ref 61, .int (nI 23), .int (nI xx)] x r (vH x - 3, vU x, vL x) S := by
  have m189 := ml_189
  have m400 := ml_400
  obtain ⟨c1, c2, c3, c4, c5⟩ := CI_len h
  have hT := CI_T h
  have hp := put_R (d := d) (ob_ := 2) (kb := 1) (vb := 0) h hl (by omega) (by omega) (by omega)
  rw [show topC (x :: r) + offC (x :: r) - 1 - 1 = topC (x :: r) + offC (x :: r) - 2 by omega, show topC (x :: r) + offC (x :: r) - 1 - 0 = topC (x :: r) + offC (x :: r) - 1 by omega, show topC (x :: r) + offC (x :: r) - 1 - 2 = topC (x :: r) + offC (x :: r) - 3 by omega] at hp
  have hu := opR_up (d' := d + 15) (jc' := 189) (ac' := [.ref 53, .int (nI 42)]) hp (by omega) (fun rb S' hA => Ans.of (by rw [m189]; exact Nat.le_of_ble_eq_true rfl) (Bod.lv (by rfl) (mAc_21 (d := d + 6) (op := 42) (by omega) rfl hA)))
  refine opR_ux hu (by omega) (fun b Sr W hb h51 hA => ?_)
  rcases hb with rfl | rfl
  · exact Ans.of (by rw [m400]; exact Nat.le_of_ble_eq_true rfl) (Bod.lv (by rfl) (rPl_22 (d := d + 7) (op := 23) (by omega) hx rfl h51 (by omega) (by omega) (by omega) (by omega) hA))
  · exact Ans.of (by rw [m400]; exact Nat.le_of_ble_eq_true rfl) (Bod.lv (by rfl) (rPl_21 (d := d + 7) (op := 23) (by omega) hx rfl h51 (by omega) (by omega) (by omega) (by omega) hA))
end
