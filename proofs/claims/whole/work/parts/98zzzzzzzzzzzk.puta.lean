/-! DEEDS ON BOTH SIDES: an attribute is put, deleted -/
section
variable {P : Nat → Prop} {T : cS} {gT : Nat} {Q : Nat → Prop} {β β' : Nat → Nat} {F : Nat → Nat → Nat → Prop} {loc par : Nat → Nat → Nat} {ty : Nat → Nat × Nat} {G : Nat → Nat → Nat → Nat × Nat × LL → Prop} {D D' K : List Nat} {z nn g0 g1 g3 g4 g5 gn d d' dr v o i k k0 e n nt m t tp tt r0 ob_ vb q rr : Nat} {tq : Nat → Nat × Nat} {C r : List Lv} {x : Lv} {S S' S1 X W Sc Sr : cS} {f g : Nat → Nat} {hi lo kh kl a b ka kb : Int64} {kd rb : Int32} {l' : List (Nat × Nat)} {s : Nat}
theorem hasA (h : CI F loc par ty G tq (x :: r) S) (o1 : o ≤ 1500) (o3 : o = 0 ∨ lv S o) : Ans (d + 13) 219 [.ref 53, .int (nI o)] S (some (.int (nI (if h_kd S o = 4 ∨ h_kd S o = 5 then 1 else 0)))) S := by
  have m := ml_219
  obtain ⟨k7, ck⟩ := kind_C (d := d + 1) h o1 o3
  by_cases c5 : h_kd S o = 5
  · rw [if_pos (Or.inr c5)]
    exact Ans.of (by rw [m]; exact Nat.le_of_ble_eq_true rfl) (Bod.lv (by rfl) (mHa_1 (d := d + 4) (by omega) (by omega) ck c5))
  · by_cases c4 : h_kd S o = 4
    · rw [if_pos (Or.inl c4)]
      exact Ans.of (by rw [m]; exact Nat.le_of_ble_eq_true rfl) (Bod.lv (by rfl) (mHa_3 (d := d + 4) (by omega) (by omega) ck c5 (by omega) ck c4))
    · rw [if_neg (fun c => c.elim c4 c5)]
      exact Ans.of (by rw [m]; exact Nat.le_of_ble_eq_true rfl) (Bod.lv (by rfl) (mHa_2 (d := d + 4) (by omega) (by omega) ck c5 (by omega) ck c4))
theorem lv_of (h : CI F loc par ty G tq (x :: r) S) (o3 : o = 0 ∨ lv S o) (hk : h_kd S o ≠ 0) : lv S o := by
  rcases o3 with e0 | h'
  · subst e0
    exact absurd (by unfold h_kd; rw [CI_z0 h]; rfl) hk
  · exact h'
theorem fI_neg : sm_c1 .lt (fI none) true false = true ∧ sm_c1 .ge (fI none) true false = false := by decide
theorem fI_pos {e : Nat} (he : e < 2 ^ 31) : sm_c1 .lt (fI (some e)) true false = false ∧ sm_c1 .ge (fI (some e)) true false = true := by
  refine ⟨nI_ge0 he, ?_⟩
  show (if 0 ≤ nI e then true else false) = true
  rw [if_pos (Int32.not_lt.mp (nI_pos he))]
theorem putA_R (h : CI F loc par ty G tq (x :: r) S) (hl : lob (vL x) + 2 ≤ vH x) (hex : exX F tq (x :: r) S) (hF : F q 0 rr) (h1 : ob_ ≤ 1) (h3 : vb ≤ 1) : opR F loc par ty G tq (d + 14) 221 [.ref 53, .int (nI q), .int (nI ob_), .int (nI vb)] 416 [.ref 61, .int (nI rr), .int (nI (topC (x :: r) + offC (x :: r) - 1 - ob_)), .int (nI (topC (x :: r) + offC (x :: r) - 1 - vb))] x r (vH x - 2, vU x, vL x) S := by
  have m221 := ml_221
  have m416 := ml_416
  obtain ⟨l1, l2, l3, l4, l5⟩ := CI_len h
  have hT := CI_T h
  have hq4 : q < 4096 := by
    obtain ⟨_, _, _, _, _, _, _, _, _, _, _, _, _, _, _, hX⟩ := hex
    exact (XR_nm (XN_of hX) hF).1
  have goC : ∀ {e : Int32} {S'}, Bod (d + 13) 221 0 [(0, .ref 53), (1, .int (nI q)), (2, .int (nI ob_)), (3, .int (nI vb))] [] S (some (.int e)) S' → Ans (d + 14) 221 [.ref 53, .int (nI q), .int (nI ob_), .int (nI vb)] S (some (.int e)) S' := fun hb => Ans.of (by rw [m221]; exact Nat.le_of_ble_eq_true rfl) (Bod.lv (by rfl) hb)
  have goR : ∀ {Sr : cS} {e : Int32} {W : cS}, Bod (d + 13) 416 0 [(0, .ref 61), (1, .int (nI rr)), (2, .int (nI (topC (x :: r) + offC (x :: r) - 1 - ob_))), (3, .int (nI (topC (x :: r) + offC (x :: r) - 1 - vb)))] [] Sr (some (.int e)) W → Ans (d + 14) 416 [.ref 61, .int (nI rr), .int (nI (topC (x :: r) + offC (x :: r) - 1 - ob_)), .int (nI (topC (x :: r) + offC (x :: r) - 1 - vb))] Sr (some (.int e)) W := fun hb => Ans.of (by rw [m416]; exact Nat.le_of_ble_eq_true rfl) (Bod.lv (by rfl) hb)
  obtain ⟨o, o1, o2, o3⟩ := mHS_o h.1 (i := topC (x :: r) - 1 - ob_) (by omega)
  obtain ⟨ov, v1, v2, v3⟩ := mHS_o h.1 (i := topC (x :: r) - 1 - vb) (by omega)
  have qo := object_n (d := d + 10) (b := ob_) l3 (by omega) (by omega) o2
  have qh := hasA (d := d) h o1 o3
  have e0 : c_kind (sL S 47 (topC (x :: r) - 1 - vb)) ≠ 0 ∧ c_kind (sL S 47 (topC (x :: r) - 1 - vb)) ≠ nI 5 := ⟨CI_k h (by omega), CI_n5 h (by omega)⟩
  have bo : topC (x :: r) + offC (x :: r) - 1 - ob_ < 2 ^ 20 := by omega
  have bv : topC (x :: r) + offC (x :: r) - 1 - vb < 2 ^ 20 := by omega
  have et : topC (x :: r) - 2 + offC (x :: r) = topC (x :: r) + offC (x :: r) - 2 := by omega
  have his : ∀ {P T gT Q β D z nn g0 g1 g3 g4 g5 gn Sr}, XR P T gT Q β F D z nn g0 g1 g3 g4 g5 gn tq (x :: r) S Sr → _ := fun {P T gT Q β D z nn g0 g1 g3 g4 g5 gn Sr} hX => XR_isK (d := d + 4) h hX (ob_ := ob_) (by omega) o2 o3 o1
  have hrr : ∀ {P T gT Q β D z nn g0 g1 g3 g4 g5 gn Sr}, XR P T gT Q β F D z nn g0 g1 g3 g4 g5 gn tq (x :: r) S Sr → rr < 2 ^ 20 := fun {P T gT Q β D z nn g0 g1 g3 g4 g5 gn Sr} hX => by have := (XR_nm (XN_of hX) hF).2.2.1; omega
  by_cases k45 : h_kd S o = 4 ∨ h_kd S o = 5
  · have hol := lv_of h o3 (by omega)
    rw [if_pos k45] at qh
    have ho1 := hol.1
    have oko := mHS_ok h.1 o hol.1 hol.2.1
    have no := h_n_le oko
    have hw4 : c_width (h_kd S o) = 4 := by rcases k45 with c | c <;> rw [c] <;> rfl
    have hm40 : c_most (h_kd S o) = 40 := by rcases k45 with c | c <;> rw [c] <;> rfl
    obtain ⟨oe, hka, hfi⟩ := find_C2 hol oko hw4 (sL S 17 q) (sL S 18 q)
    have n1 := nameHi_T (d := d + 11) (S := S) hq4
    have n2 := nameLo_T (d := d + 11) (S := S) hq4
    have w1 := hi_ev (d := d + 11) (b := vb) l3 (by omega) (by omega)
    have w2 := lo_ev (d := d + 11) (b := vb) l3 (by omega) (by omega)
    have k3 : sA S 3 o ≠ nI 3 := fun c => by
      unfold h_kd at k45
      rw [c] at k45
      exact absurd k45 (by decide)
    -- the reference's value, its thing
    have rd : ∀ {P T gT Q β D z nn g0 g1 g3 g4 g5 gn Sr}, XR P T gT Q β F D z nn g0 g1 g3 g4 g5 gn tq (x :: r) S Sr → ∃ ev, ev ≤ 4 ∧ sA Sr 91 (topC (x :: r) + offC (x :: r) - 1 - vb) = nI ev ∧ vrel β (sL S 47 (topC (x :: r) - 1 - vb)) (sL S 48 (topC (x :: r) - 1 - vb)) (nI ev) (sL Sr 92 (topC (x :: r) + offC (x :: r) - 1 - vb)) (sL Sr 93 (topC (x :: r) + offC (x :: r) - 1 - vb)) := fun {P T gT Q β D z nn g0 g1 g3 g4 g5 gn Sr} hX => by
      have hv := XR_v hX (i := vb) (by omega)
      obtain ⟨ev, ev4, eva, _⟩ := vr_k hv e0.1
      exact ⟨ev, ev4, eva, by rw [← eva]; exact hv⟩
    cases oe with
    | none =>
      rcases app_C (d := d + 4) (v := 2) (kh := sL S 17 q) (kl := sL S 18 q) h hl hol (Or.inr hw4) (by omega) v2 v3 e0 (fun c => by omega) with ⟨cf, A⟩ | ⟨cn, W, S', D0, A1, A2, hM, hCI, hst, hnX, hkX, hev, hv1, hv2, hek⟩
      · refine opR_err (e := 8) h (by omega) (goC (mPa_2 (d := d + 5) (by omega) (by omega) (by omega) (by omega) qo qh n1 n2 w1 w2 (hfi (d + 11)) fI_neg.1 (A.up (by omega)))) (fun P T gT Q β D z nn g0 g1 g3 g4 g5 gn Sr hX => goR ?_)
        obtain ⟨t, _, _, _, _, _, _, _, _, bt, t1, t2, t108, ⟨N, tS⟩, _, _, _, _, _, f1, _⟩ := HR_o hX.1 hol
        have hf := find_A (d := d + 4) (XN_of hX) hF hol k45 hka t1
        rcases k45 with c | c
        · obtain ⟨_, j1, j2⟩ := (his hX).2 4 (by omega) c
          exact rSa_6 (d := d + 5) (hrr hX) bo bv ((his hX).1 5 (by omega) (by omega)) j1 t108 (j2 t t1 t2) hf tS tS f1 (by omega) (by omega) (rfail_T (d := d + 4) 8 (by omega) Sr)
        · obtain ⟨_, j1, j2⟩ := (his hX).2 5 (by omega) c
          exact rSa_3 (d := d + 5) (hrr hX) bo bv j1 t108 (j2 t t1 t2) hf tS tS f1 (by omega) (by omega) (rfail_T (d := d + 4) 8 (by omega) Sr)
      · refine Or.inl ⟨S', goC (mPa_1 (d := d + 5) (by omega) (by omega) (by omega) (by omega) qo qh n1 n2 w1 w2 (hfi (d + 11)) fI_neg.1 (A1.up (by omega)) A2), fun p q => hCI p q, hM.2.1.wide, fun P T gT Q β D z nn g0 g1 g3 g4 g5 gn Sr hX => ?_⟩
        obtain ⟨t, _, _, _, _, _, _, _, _, bt, t1, t2, t108, ⟨N, tS⟩, _, _, _, _, _, f1, _⟩ := HR_o hX.1 hol
        have hf := find_A (d := d + 4) (XN_of hX) hF hol k45 hka t1
        obtain ⟨ev, ev4, eva, hvv⟩ := rd hX
        obtain ⟨u1, u2, u3, u4, u5⟩ := XR_nm (XN_of hX) hF
        have hkey : keyR β Sr g0 g1 nn (h_kd S o) (sL S 17 q) (sL S 18 q) (nI 0) (lN rr) 0 := by
          unfold keyR
          rw [if_neg (by omega)]
          exact ⟨rfl, rfl, rr, u2, rfl, u4, u5⟩
        obtain ⟨s', S4, S5, W5, s1, s2, ⟨N1, s3, s4, s5⟩, s6, A4, A5, A6, ⟨x91, x92, x93⟩, ⟨y91, y92, y93⟩, sq, h51', hX'⟩ := put_XRm (d := d + 3) (v := 2) hX h.2.2.2.2.1 hM hol k3 hw4 (by omega) (by omega) hst hnX hkX hev hv1 hv2 hek hkey (by omega) hvv
        have es : s' = t := Option.some.inj (s1.symm.trans t1)
        subst es
        rw [et] at hX'
        refine ⟨Q, β, _, nn, g0, g1, g3, g4, g5, gn, _, goR ?_, hX'⟩
        rw [← nI_ll (show rr < 2 ^ 31 by omega)] at A5
        have h51 : sI W5 6151 = nI (topC (x :: r) + offC (x :: r)) := by rw [h51']; exact XR_51 hX
        rcases k45 with c | c
        · obtain ⟨_, j1, j2⟩ := (his hX).2 4 (by omega) c
          exact rSa_5 (d := d + 5) (hrr hX) bo bv ((his hX).1 5 (by omega) (by omega)) j1 t108 (j2 s' t1 t2) hf s3 s3 s6 (by omega) (by omega) A4 A5 s4 (by omega) (by rw [y91]; exact eva) (by omega) (by rw [y92, y93]; exact A6.up (by omega)) s5 h51 (by omega) (by omega)
        · obtain ⟨_, j1, j2⟩ := (his hX).2 5 (by omega) c
          exact rSa_2 (d := d + 5) (hrr hX) bo bv j1 t108 (j2 s' t1 t2) hf s3 s3 s6 (by omega) (by omega) A4 A5 s4 (by omega) (by rw [y91]; exact eva) (by omega) (by rw [y92, y93]; exact A6.up (by omega)) s5 h51 (by omega) (by omega)
    | some e =>
      have he := hka.1
      obtain ⟨X, W, S', D0, A1, A2, hM, hCI, hst, hnX, hkX, hev, hek⟩ := set_V (d := d + 4) (v := 2) h hl hol (Or.inr hw4) he v2 v3 e0
      refine Or.inl ⟨S', goC (mPa_3 (d := d + 5) (by omega) (by omega) (by omega) (by omega) qo qh n1 n2 w1 w2 (hfi (d + 11)) (fI_pos (by omega)).1 (A1.up (by omega)) A2), fun p q => hCI p q, hM.2.1.wide, fun P T gT Q β D z nn g0 g1 g3 g4 g5 gn Sr hX => ?_⟩
      obtain ⟨t, _, _, _, _, _, _, _, _, bt, t1, t2, t108, ⟨N, tS⟩, _, _, _, _, _, f1, _⟩ := HR_o hX.1 hol
      have hf : Ans (d + 13) 399 [.ref t, .int (nI 0), .long ((nI rr).toInt64), .long 0] Sr (some (.int (nI e))) Sr := find_A (d := d + 4) (XN_of hX) hF hol k45 hka t1
      obtain ⟨ev, ev4, eva, hvv⟩ := rd hX
      obtain ⟨s', W5, s1, s2, ⟨N1, s3⟩, A6, sq, h51', hX'⟩ := put_XRh (d := d + 4) (v := 2) hX h.2.2.2.2.1 hM hol he (by omega) hst hnX hkX hev hek hvv
      have es : s' = t := Option.some.inj (s1.symm.trans t1)
      subst es
      rw [et] at hX'
      refine ⟨Q, β, _, nn, g0, g1, g3, g4, g5, gn, _, goR ?_, hX'⟩
      have h51 : sI W5 6151 = nI (topC (x :: r) + offC (x :: r)) := by rw [h51']; exact XR_51 hX
      rcases k45 with c | c
      · obtain ⟨_, j1, j2⟩ := (his hX).2 4 (by omega) c
        exact rSa_4 (d := d + 5) (hrr hX) bo bv ((his hX).1 5 (by omega) (by omega)) j1 t108 (j2 s' t1 t2) (by omega) hf s3 (by omega) eva (by omega) A6 s3 h51 (by omega) (by omega)
      · obtain ⟨_, j1, j2⟩ := (his hX).2 5 (by omega) c
        exact rSa_1 (d := d + 5) (hrr hX) bo bv j1 t108 (j2 s' t1 t2) (by omega) hf s3 (by omega) eva (by omega) A6 s3 h51 (by omega) (by omega)
  · rw [if_neg k45] at qh
    exact opR_err (e := 2) h (by omega) (goC (mPa_4 (d := d + 5) (by omega) (by omega) (by omega) (by omega) qo qh)) (fun P T gT Q β D z nn g0 g1 g3 g4 g5 gn Sr hX => goR (rSa_7 (d := d + 5) (hrr hX) bo bv ((his hX).1 5 (by omega) (fun c => k45 (Or.inr c))) ((his hX).1 4 (by omega) (fun c => k45 (Or.inl c))) (rfail_T (d := d + 4) 2 (by omega) Sr)))
end
