/-! DEEDS ON BOTH SIDES: an attribute is deleted; ops 46, 47, 48 -/
section
variable {P : Nat → Prop} {T : cS} {gT : Nat} {Q : Nat → Prop} {β β' : Nat → Nat} {F : Nat → Nat → Nat → Prop} {loc par : Nat → Nat → Nat} {ty : Nat → Nat × Nat} {G : Nat → Nat → Nat → Nat × Nat × LL → Prop} {D D' K : List Nat} {z nn g0 g1 g3 g4 g5 gn d d' dr v o i k k0 e n nt m t tp tt r0 ob_ vb q rr : Nat} {tq : Nat → Nat × Nat} {C r : List Lv} {x : Lv} {S S' S1 X W Sc Sr : cS} {f g : Nat → Nat} {hi lo kh kl a b ka kb : Int64} {kd rb : Int32} {l' : List (Nat × Nat)} {s : Nat}
theorem delA_R (h : CI F loc par ty G tq (x :: r) S) (hl : lob (vL x) + 1 ≤ vH x) (hex : exX F tq (x :: r) S) (hF : F q 0 rr) : opR F loc par ty G tq (d + 14) 222 [.ref 53, .int (nI q)] 419 [.ref 61, .int (nI rr)] x r (vH x - 1, vU x, vL x) S := by
  have m222 := ml_222
  have m419 := ml_419
  obtain ⟨l1, l2, l3, l4, l5⟩ := CI_len h
  have hT := CI_T h
  have hq4 : q < 4096 := by
    obtain ⟨_, _, _, _, _, _, _, _, _, _, _, _, _, _, _, hX⟩ := hex
    exact (XR_nm (XN_of hX) hF).1
  have goC : ∀ {e : Int32} {S'}, Bod (d + 13) 222 0 [(0, .ref 53), (1, .int (nI q))] [] S (some (.int e)) S' → Ans (d + 14) 222 [.ref 53, .int (nI q)] S (some (.int e)) S' := fun hb => Ans.of (by rw [m222]; exact Nat.le_of_ble_eq_true rfl) (Bod.lv (by rfl) hb)
  have goR : ∀ {Sr : cS} {e : Int32} {W : cS}, Bod (d + 13) 419 0 [(0, .ref 61), (1, .int (nI rr))] [] Sr (some (.int e)) W → Ans (d + 14) 419 [.ref 61, .int (nI rr)] Sr (some (.int e)) W := fun hb => Ans.of (by rw [m419]; exact Nat.le_of_ble_eq_true rfl) (Bod.lv (by rfl) hb)
  obtain ⟨o, o1, o2, o3⟩ := mHS_o h.1 (i := topC (x :: r) - 1 - 0) (by omega)
  have qo := object_n (d := d + 10) (b := 0) l3 (by omega) (by omega) o2
  have qh := hasA (d := d) h o1 o3
  have et : topC (x :: r) - 1 + offC (x :: r) = topC (x :: r) + offC (x :: r) - 1 := by omega
  have t2 : 1 ≤ topC (x :: r) + offC (x :: r) := by omega
  have his : ∀ {P T gT Q β D z nn g0 g1 g3 g4 g5 gn Sr}, XR P T gT Q β F D z nn g0 g1 g3 g4 g5 gn tq (x :: r) S Sr → _ := fun {P T gT Q β D z nn g0 g1 g3 g4 g5 gn Sr} hX => XR_isK (d := d + 4) h hX (ob_ := 0) (by omega) o2 o3 o1
  have hrr : ∀ {P T gT Q β D z nn g0 g1 g3 g4 g5 gn Sr}, XR P T gT Q β F D z nn g0 g1 g3 g4 g5 gn tq (x :: r) S Sr → rr < 2 ^ 20 := fun {P T gT Q β D z nn g0 g1 g3 g4 g5 gn Sr} hX => by have := (XR_nm (XN_of hX) hF).2.2.1; omega
  by_cases k45 : h_kd S o = 4 ∨ h_kd S o = 5
  · have hol := lv_of h o3 (by omega)
    rw [if_pos k45] at qh
    have ho1 := hol.1
    have oko := mHS_ok h.1 o hol.1 hol.2.1
    have no := h_n_le oko
    have hw4 : c_width (h_kd S o) = 4 := by rcases k45 with c | c <;> rw [c] <;> rfl
    obtain ⟨oe, hka, hfi⟩ := find_C2 hol oko hw4 (sL S 17 q) (sL S 18 q)
    have n1 := nameHi_T (d := d + 11) (S := S) hq4
    have n2 := nameLo_T (d := d + 11) (S := S) hq4
    cases oe with
    | none =>
      refine opR_err (e := 9) h (by omega) (goC (mDa_2 (d := d + 5) (by omega) (by omega) qo qh n1 n2 (hfi (d + 11)) fI_neg.2)) (fun P T gT Q β D z nn g0 g1 g3 g4 g5 gn Sr hX => goR ?_)
      obtain ⟨t, _, _, _, _, _, _, _, _, bt, t1, t2', t108, ⟨N, tS⟩, _, _, _, _, _, f1, _⟩ := HR_o hX.1 hol
      have hf := find_A (d := d + 4) (XN_of hX) hF hol k45 hka t1
      rcases k45 with c | c
      · obtain ⟨_, j1, j2⟩ := (his hX).2 4 (by omega) c
        exact rDa_4 (d := d + 5) (hrr hX) (XR_51 hX) (by omega) t2 ((his hX).1 5 (by omega) (by omega)) j1 t108 (j2 t t1 t2') hf tS (rfail_T (d := d + 4) 9 (by omega) Sr)
      · obtain ⟨_, j1, j2⟩ := (his hX).2 5 (by omega) c
        exact rDa_2 (d := d + 5) (hrr hX) (XR_51 hX) (by omega) t2 j1 t108 (j2 t t1 t2') hf tS (rfail_T (d := d + 4) 9 (by omega) Sr)
    | some e =>
      have he := hka.1
      obtain ⟨X, W, S', D0, A1, A2, hM, hCI, hst, hnX, hkX, hev, hek⟩ := del_C (d := d + 4) (v := 1) h hl hol (Or.inr hw4) (by omega) he
      refine Or.inl ⟨S', goC (mDa_1 (d := d + 5) (by omega) (by omega) qo qh n1 n2 (hfi (d + 11)) (fI_pos (by omega)).2 (A1.up (by omega)) A2), fun p q => hCI p q, hM.2.1.wide, fun P T gT Q β D z nn g0 g1 g3 g4 g5 gn Sr hX => ?_⟩
      obtain ⟨t, v2, v3, v4, v5, v6, v7, n, m, b1, t1, t2', t108, ⟨N, tS⟩, wr, wd, wl, wj, f0, f1, fn, f5, _, _⟩ := HR_o hX.1 hol
      have hf : Ans (d + 13) 399 [.ref t, .int (nI 0), .long ((nI rr).toInt64), .long 0] Sr (some (.int (nI e))) Sr := find_A (d := d + 4) (XN_of hX) hF hol k45 hka t1
      obtain ⟨zz, hzz⟩ : ∃ zz, h_n S o = zz + 1 := ⟨h_n S o - 1, by omega⟩
      rw [hzz] at f1
      have q3 : sA S 3 o ≠ nI 7 := fun c => by
        unfold h_kd at k45
        rw [c] at k45
        exact absurd k45 (by decide)
      obtain ⟨W0, A3, wr', hq⟩ := rremove_T (d := d + 1) (a0 := e) wr wd f1 (by omega) (by omega) (fun j hj => by
        obtain ⟨ev, ev4, eva, _⟩ := vr_k (f5 j (by omega)) (((h.2.2.2.1 o hol).2.1 j (by omega)).2 q3)
        exact ⟨ev, by omega, eva⟩) wj
      obtain ⟨hHR, hTF⟩ := del_HR hX.1 hM hol t1 wr wd wl wj wr' hq hzz (by omega) (by omega) hkX (fun i hi' => hev i (by omega)) (fun hw i hi' => hek hw i (by omega))
      have hXR := XR_mut hX h.2.2.2.2.1 hM b1 hTF t1 hHR (v := 1) (by omega) hst
      rw [et] at hXR
      refine ⟨Q, β, _, nn, g0, g1, g3, g4, g5, gn, _, ?_, hXR⟩
      have e51 : sI W0 6151 = nI (topC (x :: r) + offC (x :: r)) := by
        have := XR_51 hX
        rw [hq.2.2.2.2.2.2.2.2.1]
        exact (if_neg (by omega)).trans this
      have A3' := A3.up (show d + 1 + 11 ≤ d + 13 by omega)
      rcases k45 with c | c
      · obtain ⟨_, j1, j2⟩ := (his hX).2 4 (by omega) c
        exact goR (rDa_3 (d := d + 5) (hrr hX) (XR_51 hX) (by omega) t2 ((his hX).1 5 (by omega) (by omega)) j1 t108 (j2 t t1 t2') (by omega) hf tS t108 (j2 t t1 t2') A3' tS e51 (by omega) t2)
      · obtain ⟨_, j1, j2⟩ := (his hX).2 5 (by omega) c
        exact goR (rDa_1 (d := d + 5) (hrr hX) (XR_51 hX) (by omega) t2 j1 t108 (j2 t t1 t2') (by omega) hf tS t108 (j2 t t1 t2') A3' tS e51 (by omega) t2)
  · rw [if_neg k45] at qh
    exact opR_err (e := 2) h (by omega) (goC (mDa_3 (d := d + 5) (by omega) (by omega) qo qh)) (fun P T gT Q β D z nn g0 g1 g3 g4 g5 gn Sr hX => goR (rDa_5 (d := d + 5) (hrr hX) (XR_51 hX) (by omega) t2 ((his hX).1 5 (by omega) (fun c => k45 (Or.inr c))) ((his hX).1 4 (by omega) (fun c => k45 (Or.inl c))) (rfail_T (d := d + 4) 2 (by omega) Sr)))
theorem rr_lt (hex : exX F tq (x :: r) S) (hF : F q 0 rr) : q < 2 ^ 20 ∧ rr < 2 ^ 20 := by
  obtain ⟨_, _, _, _, _, _, _, _, _, _, _, _, _, _, _, hX⟩ := hex
  have := XR_nm (XN_of hX) hF
  omega
theorem putA46_R (h : CI F loc par ty G tq (x :: r) S) (hl : lob (vL x) + 2 ≤ vH x) (hex : exX F tq (x :: r) S) (hF : F q 0 rr) : opR F loc par ty G tq (d + 16) 217 [.ref 53, .int (nI 46), .int (nI q)] 400 [.ref 61, .int (nI 22), .int (nI rr)] x r (vH x - 2, vU x, vL x) S := by
  have m217 := ml_217
  have m400 := ml_400
  have hT := CI_T h
  obtain ⟨l1, l2, l3, l4, l5⟩ := CI_len h
  obtain ⟨b1, b2⟩ := rr_lt hex hF
  refine opR_uX (putA_R (d := d) (ob_ := 0) (vb := 1) h hl hex hF (by omega) (by omega)) (fun rb S' hA => ?_) (fun {P T gT Q β D z nn g0 g1 g3 g4 g5 gn Sr} hX W => ?_)
  · exact Ans.of (by rw [m217]; exact Nat.le_of_ble_eq_true rfl) (Bod.lv (by rfl) (mA2_3 (d := d + 7) (by omega) rfl (hA.up (by omega))))
  · have e2 : topC (x :: r) + offC (x :: r) - 1 - 1 = topC (x :: r) + offC (x :: r) - 2 := by omega
    rw [e2]
    exact ⟨fun hA => Ans.of (by rw [m400]; exact Nat.le_of_ble_eq_true rfl) (Bod.lv (by rfl) (rPl_19 (d := d + 7) (by omega) (by omega) rfl (XR_51 hX) (by omega) (by omega) (by omega) (hA.up (by omega)))), fun hA => Ans.of (by rw [m400]; exact Nat.le_of_ble_eq_true rfl) (Bod.lv (by rfl) (rPl_20 (d := d + 7) (by omega) (by omega) rfl (XR_51 hX) (by omega) (by omega) (by omega) (hA.up (by omega))))⟩
theorem putA47_R (h : CI F loc par ty G tq (x :: r) S) (hl : lob (vL x) + 2 ≤ vH x) (hex : exX F tq (x :: r) S) (hF : F q 0 rr) : opR F loc par ty G tq (d + 16) 217 [.ref 53, .int (nI 47), .int (nI q)] 400 [.ref 61, .int (nI 24), .int (nI rr)] x r (vH x - 2, vU x, vL x) S := by
  have m217 := ml_217
  have m400 := ml_400
  have hT := CI_T h
  obtain ⟨l1, l2, l3, l4, l5⟩ := CI_len h
  obtain ⟨b1, b2⟩ := rr_lt hex hF
  refine opR_uX (putA_R (d := d) (ob_ := 1) (vb := 0) h hl hex hF (by omega) (by omega)) (fun rb S' hA => ?_) (fun {P T gT Q β D z nn g0 g1 g3 g4 g5 gn Sr} hX W => ?_)
  · exact Ans.of (by rw [m217]; exact Nat.le_of_ble_eq_true rfl) (Bod.lv (by rfl) (mA2_4 (d := d + 7) (by omega) rfl (hA.up (by omega))))
  · have e2 : topC (x :: r) + offC (x :: r) - 1 - 1 = topC (x :: r) + offC (x :: r) - 2 := by omega
    rw [e2]
    exact ⟨fun hA => Ans.of (by rw [m400]; exact Nat.le_of_ble_eq_true rfl) (Bod.lv (by rfl) (rPl_23 (d := d + 7) (by omega) (by omega) rfl (XR_51 hX) (by omega) (by omega) (by omega) (hA.up (by omega)))), fun hA => Ans.of (by rw [m400]; exact Nat.le_of_ble_eq_true rfl) (Bod.lv (by rfl) (rPl_24 (d := d + 7) (by omega) (by omega) rfl (XR_51 hX) (by omega) (by omega) (by omega) (hA.up (by omega))))⟩
theorem delA48_R (h : CI F loc par ty G tq (x :: r) S) (hl : lob (vL x) + 1 ≤ vH x) (hex : exX F tq (x :: r) S) (hF : F q 0 rr) : opR F loc par ty G tq (d + 16) 217 [.ref 53, .int (nI 48), .int (nI q)] 400 [.ref 61, .int (nI 26), .int (nI rr)] x r (vH x - 1, vU x, vL x) S := by
  have m217 := ml_217
  have m400 := ml_400
  obtain ⟨b1, b2⟩ := rr_lt hex hF
  refine opR_uX (delA_R (d := d) h hl hex hF) (fun rb S' hA => ?_) (fun {P T gT Q β D z nn g0 g1 g3 g4 g5 gn Sr} hX W => ?_)
  · exact Ans.of (by rw [m217]; exact Nat.le_of_ble_eq_true rfl) (Bod.lv (by rfl) (mA2_5 (d := d + 7) (by omega) rfl (hA.up (by omega))))
  · exact ⟨fun hA => Ans.of (by rw [m400]; exact Nat.le_of_ble_eq_true rfl) (Bod.lv (by rfl) (rPl_27 (d := d + 7) (by omega) (by omega) rfl (hA.up (by omega)))), fun hA => Ans.of (by rw [m400]; exact Nat.le_of_ble_eq_true rfl) (Bod.lv (by rfl) (rPl_28 (d := d + 7) (by omega) (by omega) rfl (hA.up (by omega))))⟩
end
