/-! DEEDS ON BOTH SIDES: a list of the values on the stack -/
section
variable {P : Nat → Prop} {T : cS} {gT : Nat} {Q : Nat → Prop} {β β' : Nat → Nat} {F : Nat → Nat → Nat → Prop} {loc par : Nat → Nat → Nat} {ty : Nat → Nat × Nat} {G : Nat → Nat → Nat → Nat × Nat × LL → Prop} {D D' K : List Nat} {z nn g0 g1 g3 g4 g5 gn d dr v o i k n nt t t0 r0 w : Nat} {tq : Nat → Nat × Nat} {C r : List Lv} {x : Lv} {S S' S1 X W Sc Sr : cS} {g : Nat → Nat} {l2 : LL} {hi lo kh kl a b : Int64} {kd : Int32}
theorem CIk_k (h : CIk k F loc par ty G tq (x :: r) S) {i : Nat} (hi : i < vH x) : c_kind (sL S 47 (topC (x :: r) - 1 - i)) ≠ 0 := by
  have := (h.2.2.1.1.1 (vH x - 1 - i) (by omega)).1
  have e : topC (x :: r) = vB x + vH x := rfl
  rw [show vB x + (vH x - 1 - i) = topC (x :: r) - 1 - i by omega] at this
  exact this
theorem CIk_5 (h : CIk k F loc par ty G tq (x :: r) S) {i : Nat} (hi : i < vH x) (hl : lob (vL x) + i < vH x) : c_kind (sL S 47 (topC (x :: r) - 1 - i)) ≠ nI 5 := by
  intro c
  have m := (h.2.2.1.1.1 (vH x - 1 - i) (by omega)).2
  have e : topC (x :: r) = vB x + vH x := rfl
  rw [show vB x + (vH x - 1 - i) = topC (x :: r) - 1 - i by omega] at m
  have := lob_low (vL x).1 (vL x).2 h.2.2.1.2.1.2.1 _ _ (m c)
  have e2 : lob ((vL x).1, (vL x).2) = lob (vL x) := rfl
  omega
/-- no room for an object: both -/
theorem opR_full {e : Int32} {jc jr : Nat} {ac ar : List Value} {s' : Nat × Nat × LL} (h : CI F loc par ty G tq (x :: r) S) (hf : nLive S = 1500) (hc : Ans d jc ac S (some (.int (nI 8))) S) (hr : ∀ (Sr W : cS), sI Sr 6151 = nI (topC (x :: r) + offC (x :: r)) → Ans (dr + 10) 364 [.ref 61, .int e] Sr (some (.int (Int32.ofInt (-1)))) W → Ans d jr ar Sr (some (.int 0)) W) : opR F loc par ty G tq d jc ac jr ar x r s' S :=
  Or.inr ⟨8, S, by omega, hc, h, CFr.refl S, fun P T gT Q β D z nn g0 g1 g3 g4 g5 gn Sr hX => by
    obtain ⟨S1, D', b1, b2⟩ := (new_R (d := dr) (kd := e) h hX).1 hf
    exact ⟨Q, β, D', nn, g0, g1, g3, g4, g5, gn, _, hr Sr _ hX.2.2.2.2.2.1.1 b1, rIe _ _ _, XRe_I (XR_XRe b2 (CI_lob h)) (Or.inl rfl)⟩⟩
theorem obR_0 (h3 : sI W (100 * t + 0) = sA X 3 k) (h1 : sI W (100 * t + 1) = nI 0) (hn : h_n X k = 0) (hw : tOk W (β k) t) (hb : β k < 1500) (h87 : sA W 87 (β k) = nI 1) (l7 : lkR β (sA X 7 k) (sI W (100 * t + 11))) (l8 : lkR β (sA X 8 k) (sI W (100 * t + 12))) (hin : inR F X W g0 g1 nn k t) : obR β F X W g0 g1 nn k := by
  obtain ⟨v2, v3, v4, v5, v6, v7, n, m, c1, c2, c3, c4⟩ := hw
  exact ⟨hb, by rw [h87]; decide, t, v2, v3, v4, v5, v6, v7, n, m, c1, h3, by rw [h1, hn], by omega, fun i hi => by omega, fun _ => ⟨by omega, fun i hi => by omega⟩, l7, l8, hin⟩
/-- an empty list or dict: both -/
theorem new_K {kd : Nat} (hkd : kd = 1 ∨ kd = 2) (h : CI F loc par ty G tq (x :: r) S) : (nLive S = 1500 ∧ Ans (d + 2) 178 [.ref 2, .int (nI kd)] S (some (.int (nI 0))) S) ∨ (nLive S < 1500 ∧ ∃ k X, Ans (d + 2) 178 [.ref 2, .int (nI kd)] S (some (.int (nI k))) X ∧ CIk k F loc par ty G tq (x :: r) X ∧ lv X k ∧ h_kd X k = kd ∧ h_n X k = 0 ∧ CFm S X ∧ (sL X 47 = sL S 47 ∧ sL X 48 = sL S 48) ∧ (∀ j, lv S j → obE S X j ∧ j ≠ k) ∧ ∀ (P : Nat → Prop) (T : cS) (gT : Nat) (Q : Nat → Prop) (β : Nat → Nat) (D : List Nat) (z nn g0 g1 g3 g4 g5 gn : Nat) (Sr : cS), XR P T gT Q β F D z nn g0 g1 g3 g4 g5 gn tq (x :: r) S Sr → ∃ β' D' W, β' k < 1500 ∧ Ans (dr + 10) 364 [.ref 61, .int (nI kd)] Sr (some (.int (nI (β' k)))) W ∧ XR P T gT Q β' F D' z nn g0 g1 g3 g4 g5 gn tq (x :: r) X W ∧ (∀ j, j ≠ k → β' j = β j) ∧ ∀ p s, sQ Sr 86 p = some s → sQ W 86 p = some s) := by
  rcases nb_create (d := d) (kd := kd) h.1 h.2.1 (by omega) (by omega) with ⟨a, b⟩ | ⟨a, k, X, b1, b2, b3, b7, b8, b9, b10⟩
  · exact Or.inl ⟨a, b⟩
  · have hk := nbX_lk b2
    have ekd : h_kd X k = kd := by unfold h_kd; rw [b3, gN_nI (by omega)]
    have en : h_n X k = 0 := by
      unfold h_n h_z
      rw [b10, gN_nI (by omega)]
      split <;> rfl
    have n3 : sA X 3 k ≠ nI 3 := by rw [b3]; exact nI_ne (by omega) (by omega) (by omega)
    have n4 : sA X 3 k ≠ nI 4 := by rw [b3]; exact nI_ne (by omega) (by omega) (by omega)
    have n5 : sA X 3 k ≠ nI 5 := by rw [b3]; exact nI_ne (by omega) (by omega) (by omega)
    have n6 : sA X 3 k ≠ nI 6 := by rw [b3]; exact nI_ne (by omega) (by omega) (by omega)
    have n7 : sA X 3 k ≠ nI 7 := by rw [b3]; exact nI_ne (by omega) (by omega) (by omega)
    have hty : tyO F loc par ty X k ∧ vlO X k := ⟨⟨fun _ => ⟨b7, b8⟩, fun c => absurd c n3, fun c => absurd c n4, fun c => absurd c n5, fun c => absurd c n6, fun c => absurd c n7⟩, fun i hi => by omega, fun _ i hi => by omega⟩
    refine Or.inr ⟨a, k, X, b1, CIk_of h b2 (fun _ _ => rfl) hty, hk, ekd, en, b2.2.2.1, ⟨b2.2.2.2.2.2.2.1 47 (by omega), b2.2.2.2.2.2.2.1 48 (by omega)⟩, fun j hj => ⟨b2.2.2.2.2.2.1 j hj, fun c => b2.2.2.2.1 (c ▸ hj)⟩, fun P T gT Q β D z nn g0 g1 g3 g4 g5 gn Sr hX => ?_⟩
    obtain ⟨r0, t, S1, D', r1, r2, r3, r4, r5, r6, r7⟩ := (new_R (d := dr) (kd := nI kd) h hX).2 a
    obtain ⟨u1, u2, u3, u4, u5, u6, u7, u8, u9⟩ := rsT_f (kd := nI kd) r1 r3 r4
    obtain ⟨β', eb, eo⟩ : ∃ β' : Nat → Nat, β' k = r0 ∧ ∀ j, j ≠ k → β' j = β j := ⟨fun j => if j = k then r0 else β j, if_pos rfl, fun j hj => if_neg hj⟩
    refine ⟨β', D', rsT r0 t (nI kd) S1, by rw [eb]; exact r1, by rw [eb]; exact r6, XR_nb h r5 b2 r1 r2 r3 u1 u2 u7 eb eo (obR_0 (t := t) (by rw [u3, b3]) u4 en (by rw [eb]; exact u2) (by rw [eb]; exact r1) (by rw [eb]; exact u7) (Or.inl ⟨b7, u5⟩) (Or.inl ⟨b8, u6⟩) ⟨fun c => absurd c n3, fun c => absurd c n4⟩), eo, fun p s hs => by rw [u9.1]; exact r7.1 p s hs⟩
def lI (n : Nat) : Int32 := if n = 0 then Int32.ofInt (-1) else nI (n - 1)
theorem mkl_loop (hl : lob (vL x) + nt ≤ vH x) (hnt : nt ≤ 300) (rem : Nat) : ∀ {X : cS}, CIk k F loc par ty G tq (x :: r) X → lv X k → h_kd X k = 1 → h_n X k + rem = nt → ∃ X', CIk k F loc par ty G tq (x :: r) X' ∧ lv X' k ∧ CFm X X' ∧ (∀ v Sf, (∀ lv1, sm_get lv1 0 = some (.ref 53) → sm_get lv1 1 = some (.int (nI nt)) → sm_get lv1 2 = some (.int (nI k)) → sm_get lv1 3 = some (.int (lI 0)) → Bod (d + 8) 223 20 lv1 [] X' v Sf) → ∀ lv, sm_get lv 0 = some (.ref 53) → sm_get lv 1 = some (.int (nI nt)) → sm_get lv 2 = some (.int (nI k)) → sm_get lv 3 = some (.int (lI rem)) → Bod (d + 8) 223 20 lv [] X v Sf) ∧ ∀ (P : Nat → Prop) (T : cS) (gT : Nat) (Q : Nat → Prop) (β : Nat → Nat) (D : List Nat) (z nn g0 g1 g3 g4 g5 gn : Nat) (Sr : cS), XR P T gT Q β F D z nn g0 g1 g3 g4 g5 gn tq (x :: r) X Sr → ∃ W, XR P T gT Q β F D z nn g0 g1 g3 g4 g5 gn tq (x :: r) X' W ∧ ∀ v Sf, (∀ lv1, sm_get lv1 0 = some (.ref 61) → sm_get lv1 1 = some (.int (nI nt)) → sm_get lv1 2 = some (.int (nI (β k))) → sm_get lv1 3 = some (.int (nI (topC (x :: r) + offC (x :: r)))) → Bod (dr + 10) 413 19 lv1 [] W v Sf) → ∀ lv, sm_get lv 0 = some (.ref 61) → sm_get lv 1 = some (.int (nI nt)) → sm_get lv 2 = some (.int (nI (β k))) → sm_get lv 3 = some (.int (nI (topC (x :: r) + offC (x :: r) - rem))) → Bod (dr + 10) 413 19 lv [] Sr v Sf := by
  induction rem with
  | zero =>
    intro X h hk k1 hn
    exact ⟨X, h, hk, CFm.refl X, fun v Sf hc lv q0 q1 q2 q3 => hc lv q0 q1 q2 q3, fun P T gT Q β D z nn g0 g1 g3 g4 g5 gn Sr hX => ⟨Sr, hX, fun v Sf hc lv q0 q1 q2 q3 => hc lv q0 q1 q2 q3⟩⟩
  | succ rem ih =>
    intro X h hk k1 hn
    obtain ⟨l1, l2, l3, l4, l5⟩ := CIk_len h
    have hoff := offC_le (C := x :: r)
    rw [List.length_cons] at hoff
    have hk2 := hk.2.1
    obtain ⟨o, o1, o2, o3⟩ := mHS_o h.1 (i := topC (x :: r) - 1 - rem) (by omega)
    have e0 : c_kind (sL X 47 (topC (x :: r) - 1 - rem)) ≠ 0 ∧ c_kind (sL X 47 (topC (x :: r) - 1 - rem)) ≠ nI 5 := ⟨CIk_k h (by omega), CIk_5 h (by omega) (by omega)⟩
    have w1 : c_width (h_kd X k) = 2 := by rw [k1]; rfl
    have m1 : c_most (h_kd X k) = 300 := by rw [k1]; rfl
    rcases appk_W (d := d + 4) (kh := 0) (kl := 0) h hk (Or.inl w1) (by omega) o2 o3 e0 (fun c => by omega) with ⟨c, _⟩ | ⟨_, W, A, hM, hW, hst, hn', hk', hev, hv1, hv2, _⟩
    · omega
    · have hkW : lv W k := (hM.2.2.2.2.2.1 k).mpr hk
      obtain ⟨X', i1, i2, i3, i4, i5⟩ := ih hW hkW (by omega) (by omega)
      have qh := hi_ev (d := d + 6) (b := rem) l3 (by omega) (by omega)
      have ql := lo_ev (d := d + 6) (b := rem) l3 (by omega) (by omega)
      refine ⟨X', i1, i2, hM.2.1.trans i3, fun v Sf hc lv q0 q1 q2 q3 => ?_, fun P T gT Q β D z nn g0 g1 g3 g4 g5 gn Sr hX => ?_⟩
      · have e3 : lI (rem + 1) = nI rem := if_neg (by omega)
        rw [e3] at q3
        cases rem with
        | zero => exact mMlM_1 q0 q1 q2 q3 (by omega) (by omega) qh ql A (fun lv1 a0 a1 a2 a3 => i4 v Sf hc lv1 a0 a1 a2 a3)
        | succ rem => exact mMlL_1 q0 q1 q2 q3 (by omega) (by omega) (by omega) qh ql A (fun lv1 a0 a1 a2 a3 => i4 v Sf hc lv1 a0 a1 a2 (by rw [a3]; exact congrArg _ (congrArg _ (if_neg (by omega)).symm)))
      · have hv := XR_v hX (i := rem) (by omega)
        obtain ⟨y, y4, ya, _⟩ := vr_k hv e0.1
        obtain ⟨t, W', t1, t2, ⟨N, t3⟩, A', hX', _, _⟩ := add_XR (d := dr) (kd := nI y) (a := sL Sr 92 (topC (x :: r) + offC (x :: r) - 1 - rem)) (b := sL Sr 93 (topC (x :: r) + offC (x :: r) - 1 - rem)) hX h.2.2.2.2.1 hM hk k1 (by omega) hst hn' hk' hev hv1 hv2 (by rw [← ya]; exact hv)
        have hb := (hX.1.ob hk).1
        have hk1 := hk.1
        obtain ⟨W'', j1, j2⟩ := i5 P T gT Q β D z nn g0 g1 g3 g4 g5 gn W' hX'
        refine ⟨W'', j1, fun v Sf hc lv q0 q1 q2 q3 => ?_⟩
        have et : topC (x :: r) + offC (x :: r) - (rem + 1) = topC (x :: r) + offC (x :: r) - 1 - rem := by omega
        rw [et] at q3
        exact rMlL_2 (d := dr + 2) q0 q1 q2 q3 (by omega) (by omega) (by omega) hX.2.2.2.2.2.1.1 (by omega) (by omega) ((hX.1.ob hk).1) t2 t1 (by omega) ya (by omega) A' t3 (fun lv1 a0 a1 a2 a3 => j2 v Sf hc lv1 a0 a1 a2 (by rw [a3]; exact congrArg _ (congrArg _ (congrArg _ (by omega)))))
theorem mkl_R (h : CI F loc par ty G tq (x :: r) S) (hl : lob (vL x) + nt ≤ vH x) (hnt : nt ≤ 300) (h6 : vH x - nt + 1 ≤ 600) : opR F loc par ty G tq (d + 14) 223 [.ref 53, .int (nI nt)] 413 [.ref 61, .int (nI nt)] x r (vH x - nt + 1, vU x, vL x) S := by
  have m223 := ml_223
  have m413 := ml_413
  obtain ⟨l1, l2, l3, l4, l5⟩ := CI_len h
  have hT := CI_T h
  have goC : ∀ {e : Int32} {S'}, Bod (d + 13) 223 0 [(0, .ref 53), (1, .int (nI nt))] [] S (some (.int e)) S' → Ans (d + 14) 223 [.ref 53, .int (nI nt)] S (some (.int e)) S' := fun hb => Ans.of (by rw [m223]; exact Nat.le_of_ble_eq_true rfl) (Bod.lv (by rfl) hb)
  have goR : ∀ {Sr : cS} {e : Int32} {W : cS}, Bod (d + 13) 413 0 [(0, .ref 61), (1, .int (nI nt))] [] Sr (some (.int e)) W → Ans (d + 14) 413 [.ref 61, .int (nI nt)] Sr (some (.int e)) W := fun hb => Ans.of (by rw [m413]; exact Nat.le_of_ble_eq_true rfl) (Bod.lv (by rfl) hb)
  rcases new_K (d := d + 11) (dr := d + 3) (kd := 1) (Or.inl rfl) h with ⟨hf, A⟩ | ⟨_, k, X, A, hk, hlk, k1, kn, cf, ⟨s47, s48⟩, _, hR⟩
  · refine opR_full (dr := d + 3) (e := nI 1) h hf (goC ?_) (fun Sr W _ B => goR (rMl_2 (d := d + 5) (by omega) B))
    cases nt with
    | zero => exact mMlZ_2 (d := d + 5) (by omega) A rfl
    | succ nt => exact mMl_2 (d := d + 5) (by omega) (by omega) A rfl
  · obtain ⟨X', i1, i2, i3, i4, i5⟩ := mkl_loop (d := d + 5) (dr := d + 3) hl hnt nt hk hlk k1 (by omega)
    have hk1 := hlk.1
    have hk2 := hlk.2.1
    obtain ⟨S', c1, c2, c3, c4⟩ := give_k (d := d + 4) (v := nt) (l2 := vL x) i1 i2 (Or.inl rfl) hl h6
    have c1' : Ans (d + 13) 148 [.ref 46, .int (nI nt), .long ((4611686018427387904)), .long ((nI k).toInt64)] X' (some (.int (nI 0))) S' := by rw [nI_ll (by omega)]; exact c1
    have fin : ∀ lv1, sm_get lv1 0 = some (.ref 53) → sm_get lv1 1 = some (.int (nI nt)) → sm_get lv1 2 = some (.int (nI k)) → sm_get lv1 3 = some (.int (lI 0)) → Bod (d + 13) 223 20 lv1 [] X' (some (.int (nI 0))) S' := fun lv1 q0 q1 q2 q3 => mMlE_1 q0 q1 q2 q3 (by omega) (by omega) c1'
    refine Or.inl ⟨S', goC ?_, fun p q => c2 p q, ((cf.trans i3).trans c3).wide, fun P T gT Q β D z nn g0 g1 g3 g4 g5 gn Sr hX => ?_⟩
    · cases nt with
      | zero => exact mMlZ_1 (d := d + 5) (by omega) A (by omega) (fun lv1 q0 q1 q2 q3 => i4 _ _ fin lv1 q0 q1 q2 q3)
      | succ nt => exact mMl_1 (d := d + 5) (by omega) (by omega) A (by omega) (by omega) (fun lv1 q0 q1 q2 q3 => i4 _ _ fin lv1 q0 q1 q2 (by rw [q3]; exact congrArg _ (congrArg _ (if_neg (by omega)).symm)))
    · obtain ⟨β', D', W, hb, B, hX', _⟩ := hR P T gT Q β D z nn g0 g1 g3 g4 g5 gn Sr hX
      obtain ⟨W', hX2, j2⟩ := i5 P T gT Q β' D' z nn g0 g1 g3 g4 g5 gn W hX'
      obtain ⟨D2, hX3⟩ := c4 P T gT Q β' D' z nn g0 g1 g3 g4 g5 gn W' hX2
      refine ⟨Q, β', D2, nn, g0, g1, g3, g4, g5, gn, _, goR ?_, hX3⟩
      refine rMl_1 (d := d + 5) (by omega) hb B hX'.2.2.2.2.2.1.1 (by omega) (by omega) (fun lv1 q0 q1 q2 q3 => j2 _ _ (fun lv2 p0 p1 p2 p3 => ?_) lv1 q0 q1 q2 q3)
      have := rMlL_1 (d := d + 5) p0 p1 p2 p3 (by omega) (by omega) (by omega) hX2.2.2.2.2.2.1.1 (by omega) (Nat.le_refl _) (by omega) (by rw [nI_ll (by omega)]; exact rpsh_T (d := d + 4) (kd := nI 3) (xa := lN (β' k)) (xb := 0) (S := W') (by omega))
      exact this
theorem mkl49_R (h : CI F loc par ty G tq (x :: r) S) (hl : lob (vL x) + nt ≤ vH x) (hnt : nt ≤ 300) (h6 : vH x - nt + 1 ≤ 600) : opR F loc par ty G tq (d + 16) 217 [.ref 53, .int (nI 49), .int (nI nt)] 400 [.ref 61, .int (nI 18), .int (nI nt)] x r (vH x - nt + 1, vU x, vL x) S := by
  have m217 := ml_217
  have m400 := ml_400
  refine opR_ur (d := d + 15) (opR_up (mkl_R (d := d) h hl hnt h6) (by omega) (fun rb S' hA => ?_)) (by omega) (fun b Sr W hb hA => ?_)
  · exact Ans.of (by rw [m217]; exact Nat.le_of_ble_eq_true rfl) (Bod.lv (by rfl) (mA2_6 (d := d + 6) (by omega) rfl hA))
  · rcases hb with e | e
    · subst e
      exact Ans.of (by rw [m400]; exact Nat.le_of_ble_eq_true rfl) (Bod.lv (by rfl) (rPl_13 (d := d + 7) (by omega) (by omega) rfl hA))
    · subst e
      exact Ans.of (by rw [m400]; exact Nat.le_of_ble_eq_true rfl) (Bod.lv (by rfl) (rPl_12 (d := d + 7) (by omega) (by omega) rfl hA))
end
