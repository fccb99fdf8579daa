/-! DEEDS ON BOTH SIDES: two lists in one -/
section
variable {P : Nat → Prop} {T : cS} {gT : Nat} {Q : Nat → Prop} {β β' : Nat → Nat} {F : Nat → Nat → Nat → Prop} {loc par : Nat → Nat → Nat} {ty : Nat → Nat × Nat} {G : Nat → Nat → Nat → Nat × Nat × LL → Prop} {D D' K : List Nat} {z nn g0 g1 g3 g4 g5 gn d dr v o i k n nt t t0 r0 w sz s : Nat} {tq : Nat → Nat × Nat} {C r : List Lv} {x : Lv} {S S' S1 X W Sc Sr : cS} {g : Nat → Nat} {l2 : LL} {hi lo kh kl a b : Int64} {kd : Int32}
theorem ent_o (hok : h_ok S k) (hcl : h_cl S) (hl : lv S k) (hi : i < h_n S k) : ∃ o, o ≤ 1500 ∧ c_obj (h_hi S k i) (h_lo S k i) = nI o ∧ (o = 0 ∨ lv S o) := by
  obtain ⟨kd, z, a, N, _, _, e3, _, e5, e6, _, e8, e9, _⟩ := row_o hok (by omega)
  obtain ⟨kd', z', _, _, q1, q2, q3, _, _, _, _, _, _, _, q10⟩ := hok
  obtain ⟨N', _, _, _, _, q11⟩ := q10 a e8
  have ek : h_kd S k = kd' := by unfold h_kd; rw [q2, gN_nI (by omega)]
  have hz : i < z' := by
    have : h_n S k ≤ h_z S k := by unfold h_n; split <;> omega
    have e : h_z S k = z' ∨ h_z S k ≠ z' := by omega
    have h300 : z' < 2 ^ 31 := by have := c_most_le kd'; omega
    have : h_z S k = z' := by unfold h_z; rw [q3, gN_nI h300]
    omega
  obtain ⟨o, o1, o2⟩ := q11 i hz
  have o3 : c_obj (h_hi S k i) (h_lo S k i) = nI o := by
    unfold h_hi h_lo
    rw [e9, ek]
    exact o2
  refine ⟨o, o1, o3, ?_⟩
  have hm : h_ent S k i ∈ tgs S k := List.mem_cons_of_mem _ (List.mem_cons_of_mem _ (seqN_in (f := h_ent S k) (Nat.zero_le i) (by omega)))
  have eh : h_ent S k i = o := ob_n o3 o1
  rw [eh] at hm
  exact hcl k hl.1 hl.2.1 hl.2.2 o hm
/-- the reference adds rem items of the thing at s, from item i on, to the thing of number l -/
def lpR (d l s sz : Nat) : Nat → Nat → cS → cS → Prop
  | 0, _, S, W => W = S
  | rem + 1, i, S, W => ∃ (r r1 r2 N N1 N2 e g : Nat) (S1 : cS), (∃ zg, (sS S)[s - 108]? = some (13, zg)) ∧ sI S (100 * s + 1) = nI sz ∧ l < 1500 ∧ 108 ≤ g ∧ sQ S 86 l = some g ∧ (∃ zg, (sS S)[g - 108]? = some (13, zg)) ∧ sV S (100 * s + 2) = .ref r ∧ isK S r 0 N ∧ N < 2 ^ 20 ∧ i < N ∧ sA S r i = nI e ∧ e < 2 ^ 20 ∧ sV S (100 * s + 4) = .ref r1 ∧ isK S r1 1 N1 ∧ N1 < 2 ^ 20 ∧ i < N1 ∧ sV S (100 * s + 5) = .ref r2 ∧ isK S r2 1 N2 ∧ N2 < 2 ^ 20 ∧ i < N2 ∧ Ans d 375 [.ref g, .int (nI e), .long (sL S r1 i), .long (sL S r2 i)] S none S1 ∧ lpR d l s sz rem (i + 1) S1 W
theorem apa_loop {q : Nat} (hsz : sz ≤ 300) (rem : Nat) : ∀ {X : cS}, CIk k F loc par ty G tq (x :: r) X → lv X k → h_kd X k = 1 → h_n X k + rem ≤ 300 → lv X q → q ≠ k → h_kd X q = 1 → h_n X q = sz → rem ≤ sz → ∃ X', CIk k F loc par ty G tq (x :: r) X' ∧ lv X' k ∧ h_kd X' k = 1 ∧ h_n X' k = h_n X k + rem ∧ CFm X X' ∧ (∀ j, lv X j → j ≠ k → obE X X' j) ∧ (∀ j, lv X j → lv X' j) ∧ (∀ lv, sm_get lv 0 = some (.ref 2) → sm_get lv 1 = some (.int (nI k)) → sm_get lv 2 = some (.int (nI q)) → sm_get lv 3 = some (.int (nI sz)) → sm_get lv 4 = some (.int (nI (sz - rem))) → Bod (d + 8) 195 9 lv [] X none X') ∧ ∀ (P : Nat → Prop) (T : cS) (gT : Nat) (Q : Nat → Prop) (β : Nat → Nat) (D : List Nat) (z nn g0 g1 g3 g4 g5 gn : Nat) (Sr : cS), XR P T gT Q β F D z nn g0 g1 g3 g4 g5 gn tq (x :: r) X Sr → ∃ W, XR P T gT Q β F D z nn g0 g1 g3 g4 g5 gn tq (x :: r) X' W ∧ sQ W = sQ Sr ∧ ∀ s, sQ Sr 86 (β q) = some s → lpR (dr + 10) (β k) s sz rem (sz - rem) Sr W := by
  induction rem with
  | zero =>
    intro X h hk k1 hn hq hqk q1 qn hle
    exact ⟨X, h, hk, k1, rfl, CFm.refl X, fun j hj _ => obE.refl X j, fun j hj => hj, fun lv p0 p1 p2 p3 p4 => mAaL_1 p0 p1 p2 p3 p4 (by have := hk.2.1; omega) (by have := hq.2.1; omega) (by omega) (by omega) (by omega), fun P T gT Q β D z nn g0 g1 g3 g4 g5 gn Sr hX => ⟨Sr, hX, rfl, fun s _ => rfl⟩⟩
  | succ rem ih =>
    intro X h hk k1 hn hq hqk q1 qn hle
    have hk2 := hk.2.1
    have hq2 := hq.2.1
    have hokq := mHS_ok h.1 q hq.1 hq.2.1
    have hii : sz - (rem + 1) < h_n X q := by omega
    obtain ⟨o, o1, o2, o3⟩ := ent_o hokq (mHS_cl h.1) hq hii
    obtain ⟨qh, ql⟩ := ent_C (d := d + 5) hq hokq hii
    have q3 : sA X 3 q ≠ nI 7 := fun c => by
      unfold h_kd at q1
      rw [c] at q1
      exact absurd q1 (by decide)
    have e0 : c_kind (h_hi X q (sz - (rem + 1))) ≠ 0 ∧ c_kind (h_hi X q (sz - (rem + 1))) ≠ nI 5 := by
      obtain ⟨y1, _⟩ := (h.2.2.2.1 q hq).2
      exact ⟨(y1 _ hii).2 q3, (y1 _ hii).1⟩
    have w1 : c_width (h_kd X k) = 2 := by rw [k1]; rfl
    have m1 : c_most (h_kd X k) = 300 := by rw [k1]; rfl
    rcases appk_W (d := d + 4) (kh := 0) (kl := 0) h hk (Or.inl w1) (by omega) o2 o3 e0 (fun c => by omega) with ⟨c, _⟩ | ⟨_, W, A, hM, hW, hst, hn', hk', hev, hv1, hv2, _⟩
    · omega
    · have hkW : lv W k := (hM.2.2.2.2.2.1 k).mpr hk
      have hE : ∀ j, lv X j → j ≠ k → obE X W j := fun j hj hjk => hM.2.2.1 j hj.1 hj.2.1 hjk
      have hqW : lv W q := (hM.2.2.2.2.2.1 q).mpr hq
      have hEq := hE q hq hqk
      have q1' : h_kd W q = 1 := by unfold h_kd; rw [hEq.1]; exact q1
      have qn' : h_n W q = sz := by
        rw [← qn]
        unfold h_n
        rw [q1', q1]
        unfold h_z
        rw [hEq.2.2.2.2.1]
      obtain ⟨X', i1, i2, i3, i4, i5, i6, i7, i8, i9⟩ := ih hW hkW (by omega) (by omega) hqW hqk q1' qn' (by omega)
      refine ⟨X', i1, i2, i3, by omega, hM.2.1.trans i5, fun j hj hjk => (hE j hj hjk).trans (i6 j ((hM.2.2.2.2.2.1 j).mpr hj) hjk), fun j hj => i7 j ((hM.2.2.2.2.2.1 j).mpr hj), fun lv p0 p1 p2 p3 p4 => ?_, fun P T gT Q β D z nn g0 g1 g3 g4 g5 gn Sr hX => ?_⟩
      · refine mAaL_2 p0 p1 p2 p3 p4 (by omega) (by omega) (by omega) (by omega) (by omega) qh ql A (fun lv1 a0 a1 a2 a3 a4 => i8 lv1 a0 a1 a2 a3 (by rw [a4]; exact congrArg _ (congrArg _ (congrArg _ (by omega)))))
      · obtain ⟨t, v2, v3, v4, v5, v6, v7, n, m, bt, t1, t2, t108, ⟨N, tS⟩, wr, wd, wl, wj, f0, f1, fn, fv, _, h87⟩ := HR_o hX.1 hq
        have hv := fv _ hii
        obtain ⟨y, y4, ya, _⟩ := vr_k hv e0.1
        obtain ⟨tk, W', s1, s2, ⟨Nk, s3⟩, A', hX', sq, _⟩ := add_XR (d := dr) (kd := nI y) (a := sL Sr v4 (sz - (rem + 1))) (b := sL Sr v5 (sz - (rem + 1))) hX h.2.2.2.2.1 hM hk k1 (by omega) hst hn' hk' hev hv1 hv2 (by rw [← ya]; exact hv)
        obtain ⟨W'', j1, j2, j3⟩ := i9 P T gT Q β D z nn g0 g1 g3 g4 g5 gn W' hX'
        refine ⟨W'', j1, j2.trans sq, fun s hs => ?_⟩
        have est : s = t := Option.some.inj (hs.symm.trans t1)
        subst est
        have hj3 := j3 s (by rw [sq]; exact hs)
        rw [show sz - rem = sz - (rem + 1) + 1 by omega] at hj3
        obtain ⟨c1, c2, c3, c4, c5, c6, c7, c8, c9, c10, c11, c12, c13, c14, c15, c16, _⟩ := wr
        exact ⟨v2, v4, v5, n, n, n, y, tk, W', ⟨N, tS⟩, by rw [f1, qn], (hX.1.ob hk).1, s2, s1, ⟨Nk, s3⟩, c4, c10, c16, by omega, ya, by omega, c6, c12, c16, by omega, c7, c13, c16, by omega, A', hj3⟩
theorem lpA {v : Option Value} {Sf W : cS} {l s sz g2 rem : Nat} (hl : l < 2 ^ 20) (hs : 108 ≤ s) (hg : 108 ≤ g2) (hsz : sz ≤ 300) : ∀ {i : Nat} {S : cS}, i + rem = sz → lpR (d + 8) l s sz rem i S W → (∀ lv1, sm_get lv1 0 = some (.ref 61) → sm_get lv1 3 = some (.ref s) → sm_get lv1 4 = some (.ref g2) → sm_get lv1 5 = some (.int (nI l)) → sm_get lv1 6 = some (.int (nI sz)) → Bod (d + 8) 407 53 lv1 [] W v Sf) → ∀ lv, sm_get lv 0 = some (.ref 61) → sm_get lv 3 = some (.ref s) → sm_get lv 4 = some (.ref g2) → sm_get lv 5 = some (.int (nI l)) → sm_get lv 6 = some (.int (nI i)) → Bod (d + 8) 407 53 lv [] S v Sf := by
  induction rem with
  | zero =>
    intro i S hi h hc lv q0 q3 q4 q5 q6
    cases h
    exact hc lv q0 q3 q4 q5 (by rw [q6]; exact congrArg _ (congrArg _ (congrArg _ (by omega))))
  | succ rem ih =>
    intro i S hi h hc lv q0 q3 q4 q5 q6
    obtain ⟨r, r1, r2, N, N1, N2, e, g, S1, ⟨z1, c1⟩, c2, c3, c4, c5, ⟨z2, c6⟩, c7, c8, c9, c10, c11, c12, c13, c14, c15, c16, c17, c18, m1, m2, m3, c19⟩ := h
    exact rJlA_2 (zg2 := 0) q0 q3 q4 q5 q6 (by omega) (by omega) hs hg c1 c2 (by omega) (by omega) c3 c4 c5 c7 c8 c9 c10 c11 c12 c13 c14 c15 c16 c17 c18 m1 m2 m3 c6 (fun lv1 p0 p3 p4 p5 p6 => ih (by omega) c19 hc lv1 p0 p3 p4 p5 p6)
theorem lpB {v : Option Value} {Sf W : cS} {l s sz rem : Nat} (hl : l < 2 ^ 20) (hs : 108 ≤ s) (hsz : sz ≤ 300) : ∀ {i : Nat} {S : cS}, i + rem = sz → lpR (d + 8) l s sz rem i S W → (∀ lv1, sm_get lv1 0 = some (.ref 61) → sm_get lv1 4 = some (.ref s) → sm_get lv1 5 = some (.int (nI l)) → sm_get lv1 6 = some (.int (nI sz)) → Bod (d + 8) 407 102 lv1 [] W v Sf) → ∀ lv, sm_get lv 0 = some (.ref 61) → sm_get lv 4 = some (.ref s) → sm_get lv 5 = some (.int (nI l)) → sm_get lv 6 = some (.int (nI i)) → Bod (d + 8) 407 102 lv [] S v Sf := by
  induction rem with
  | zero =>
    intro i S hi h hc lv q0 q4 q5 q6
    cases h
    exact hc lv q0 q4 q5 (by rw [q6]; exact congrArg _ (congrArg _ (congrArg _ (by omega))))
  | succ rem ih =>
    intro i S hi h hc lv q0 q4 q5 q6
    obtain ⟨r, r1, r2, N, N1, N2, e, g, S1, ⟨z1, c1⟩, c2, c3, c4, c5, ⟨z2, c6⟩, c7, c8, c9, c10, c11, c12, c13, c14, c15, c16, c17, c18, m1, m2, m3, c19⟩ := h
    exact rJlB_2 q0 q4 q5 q6 (by omega) (by omega) hs c1 c2 (by omega) (by omega) c3 c4 c5 c7 c8 c9 c10 c11 c12 c13 c14 c15 c16 c17 c18 m1 m2 m3 c6 (fun lv1 p0 p4 p5 p6 => ih (by omega) c19 hc lv1 p0 p4 p5 p6)
theorem sz_C (hl : lv S o) (hok : h_ok S o) (k1 : h_kd S o = 1 ∨ h_kd S o = 2) : Ans (d + 2) 140 [.ref 2, .int (nI o)] S (some (.int (nI (h_n S o)))) S := by
  have cz := sizeAt_T (d := d) (S := S) (k := o) hl.1 hl.2.1
  obtain ⟨kd', zz, _, _, k3', k10, hkd', hzz, _⟩ := kdz hok
  have ez : sA S 10 o = nI (h_n S o) := by
    rw [k10]
    unfold h_n
    rw [hkd', hzz]
    split
    · rename_i c
      rcases k1 with c1 | c1
      · rw [show kd' = 1 by omega] at c; exact absurd c (by decide)
      · rw [show kd' = 2 by omega] at c; exact absurd c (by decide)
    · rfl
  rw [ez] at cz
  exact cz
theorem jl_R {ov : Nat} (h : CI F loc par ty G tq (x :: r) S) (hl : lob (vL x) + 2 ≤ vH x) (o1 : o ≤ 1500) (o2 : c_obj (sL S 47 (topC (x :: r) - 1 - 1)) (sL S 48 (topC (x :: r) - 1 - 1)) = nI o) (v1 : ov ≤ 1500) (v2 : c_obj (sL S 47 (topC (x :: r) - 1 - 0)) (sL S 48 (topC (x :: r) - 1 - 0)) = nI ov) (ho : lv S o) (hv : lv S ov) (ko : h_kd S o = 1) (kv : h_kd S ov = 1) : opR F loc par ty G tq (d + 15) 194 [.ref 53] 407 [.ref 61, .int (nI (topC (x :: r) + offC (x :: r) - 2)), .int (nI (topC (x :: r) + offC (x :: r) - 1))] x r (vH x - 2 + 1, vU x, vL x) S := by
  have m194 := ml_194
  have m195 := ml_195
  have m407 := ml_407
  obtain ⟨l1, l2, l3, l4, l5⟩ := CI_len h
  have hT := CI_T h
  have goC : ∀ {e : Int32} {S'}, Bod (d + 14) 194 0 [(0, .ref 53)] [] S (some (.int e)) S' → Ans (d + 15) 194 [.ref 53] S (some (.int e)) S' := fun hb => Ans.of (by rw [m194]; exact Nat.le_of_ble_eq_true rfl) (Bod.lv (by rfl) hb)
  have goR : ∀ {Sr : cS} {e : Int32} {W : cS}, Bod (d + 14) 407 0 [(0, .ref 61), (1, .int (nI (topC (x :: r) + offC (x :: r) - 2))), (2, .int (nI (topC (x :: r) + offC (x :: r) - 1)))] [] Sr (some (.int e)) W → Ans (d + 15) 407 [.ref 61, .int (nI (topC (x :: r) + offC (x :: r) - 2)), .int (nI (topC (x :: r) + offC (x :: r) - 1))] Sr (some (.int e)) W := fun hb => Ans.of (by rw [m407]; exact Nat.le_of_ble_eq_true rfl) (Bod.lv (by rfl) hb)
  have qo := obk_C (d := d + 2) (nv := 1) (kd := 1) h (by omega) (by omega) (by omega) o1 o2 (Or.inr ho)
  have qv := obk_C (d := d + 2) (nv := 0) (kd := 1) h (by omega) (by omega) (by omega) v1 v2 (Or.inr hv)
  rw [if_pos ko] at qo
  rw [if_pos kv] at qv
  have oko := mHS_ok h.1 o ho.1 ho.2.1
  have okv := mHS_ok h.1 ov hv.1 hv.2.1
  have qs := sz_C (d := d + 12) ho oko (Or.inl ko)
  have qt := sz_C (d := d + 12) hv okv (Or.inl kv)
  have no := h_n_le oko
  have nv := h_n_le okv
  have ho1 := ho.1
  have hv1 := hv.1
  have eb : topC (x :: r) + offC (x :: r) - 1 - 1 = topC (x :: r) + offC (x :: r) - 2 := by omega
  have ev : topC (x :: r) + offC (x :: r) - 1 - 0 = topC (x :: r) + offC (x :: r) - 1 := by omega
  have bb : topC (x :: r) + offC (x :: r) - 2 < 2 ^ 20 ∧ topC (x :: r) + offC (x :: r) - 1 < 2 ^ 20 := by omega
  have rd : ∀ {P T gT Q β D z nn g0 g1 g3 g4 g5 gn Sr}, XR P T gT Q β F D z nn g0 g1 g3 g4 g5 gn tq (x :: r) S Sr → ∃ ta tb, sQ Sr 86 (β o) = some ta ∧ 108 ≤ ta ∧ (∃ N, (sS Sr)[ta - 108]? = some (13, N)) ∧ sI Sr (100 * ta + 1) = nI (h_n S o) ∧ sQ Sr 86 (β ov) = some tb ∧ 108 ≤ tb ∧ (∃ N, (sS Sr)[tb - 108]? = some (13, N)) ∧ sI Sr (100 * tb + 1) = nI (h_n S ov) ∧ Ans (d + 14) 361 [.ref 61, .int (nI (topC (x :: r) + offC (x :: r) - 2))] Sr (some (.ref ta)) Sr ∧ Ans (d + 14) 361 [.ref 61, .int (nI (topC (x :: r) + offC (x :: r) - 1))] Sr (some (.ref tb)) Sr := fun {P T gT Q β D z nn g0 g1 g3 g4 g5 gn Sr} hX => by
    have a := XR_is (d := d + 5) h hX (ob_ := 1) (by omega) o2 (Or.inr ho) o1
    have b := XR_is (d := d + 5) h hX (ob_ := 0) (by omega) v2 (Or.inr hv) v1
    rw [eb] at a
    rw [ev] at b
    obtain ⟨_, _, a3⟩ := a.2 1 (Or.inl rfl) ko
    obtain ⟨_, _, b3⟩ := b.2 1 (Or.inl rfl) kv
    obtain ⟨t, _, _, _, _, _, _, _, _, _, t1, t2, t108, tS, _, _, _, _, _, f1, _⟩ := HR_o hX.1 ho
    obtain ⟨t', _, _, _, _, _, _, _, _, _, t1', t2', t108', tS', _, _, _, _, _, f1', _⟩ := HR_o hX.1 hv
    exact ⟨t, t', t1, t108, tS, f1, t1', t108', tS', f1', a3 t t1 t2, b3 t' t1' t2'⟩
  by_cases hsz : h_n S o + h_n S ov ≤ 300
  · rcases new_K (d := d + 12) (dr := d + 4) (kd := 1) (Or.inl rfl) h with ⟨hf, A⟩ | ⟨_, k, X, A, hk, hlk, k1, kn, cf, _, hE, hR⟩
    · refine Or.inr ⟨8, S, by omega, goC (mJl_3 (d := d + 6) (by omega) qo (by omega) qv (by omega) (by omega) (by omega) qs (by omega) qt hsz (by omega) A rfl), h, CFr.refl S, fun P T gT Q β D z nn g0 g1 g3 g4 g5 gn Sr hX => ?_⟩
      obtain ⟨S1, D', b1, b2⟩ := (new_R (d := d + 4) (kd := nI 1) h hX).1 hf
      obtain ⟨ta, tb, a1, a2, ⟨_, a3⟩, a4, b1', b2', ⟨_, b3⟩, b4, c1, c2⟩ := rd hX
      exact ⟨Q, β, D', nn, g0, g1, g3, g4, g5, gn, _, goR (rJl_2 (d := d + 6) bb.1 bb.2 a2 c1 b2' c2 a3 a4 (by omega) b3 b4 (by omega) hsz b1), rIe _ _ _, XRe_I (XR_XRe b2 (CI_lob h)) (Or.inl rfl)⟩
    · have hk1 := hlk.1
      have hk2 := hlk.2.1
      have toX : ∀ j, lv S j → lv X j := fun j hj => ⟨hj.1, hj.2.1, by rw [(hE j hj).1.1]; exact hj.2.2⟩
      have eqn : ∀ {A B : cS} {j : Nat}, obE A B j → h_kd A j = 1 → h_kd B j = 1 ∧ h_n B j = h_n A j := fun {A B j} hE h1 => by
        have e1 : h_kd B j = 1 := by unfold h_kd; rw [hE.1]; exact h1
        refine ⟨e1, ?_⟩
        unfold h_n
        rw [e1, h1]
        unfold h_z
        rw [hE.2.2.2.2.1]
      obtain ⟨y1, y2⟩ := eqn (hE o ho).1 ko
      obtain ⟨z1, z2⟩ := eqn (hE ov hv).1 kv
      obtain ⟨X1, i1, i2, i3, i4, i5, i6, i7, i8, i9⟩ := apa_loop (d := d + 5) (dr := d + 4) (sz := h_n S o) no (h_n S o) hk hlk k1 (by omega) (toX o ho) (hE o ho).2 y1 y2 (Nat.le_refl _)
      obtain ⟨z1', z2'⟩ := eqn (i6 ov (toX ov hv) (hE ov hv).2) z1
      obtain ⟨X2, j1, j2, j3, j4, j5, j6, j7, j8, j9⟩ := apa_loop (d := d + 5) (dr := d + 4) (sz := h_n S ov) nv (h_n S ov) i1 i2 i3 (by omega) (i7 ov (toX ov hv)) (hE ov hv).2 z1' (by omega) (Nat.le_refl _)
      obtain ⟨S', c1, c2, c3, c4⟩ := give_k (d := d + 5) (v := 2) (l2 := vL x) j1 j2 (Or.inl rfl) hl (by omega)
      have c1' : Ans (d + 14) 148 [.ref 46, .int (nI 2), .long ((4611686018427387904)), .long ((nI k).toInt64)] X2 (some (.int (nI 0))) S' := by rw [nI_ll (by omega)]; exact c1
      have okX := mHS_ok hk.1 o ho.1 ho.2.1
      have okX1 := mHS_ok i1.1 ov hv.1 hv.2.1
      have qs1 := sz_C (d := d + 11) (toX o ho) okX (Or.inl y1)
      have qs2 := sz_C (d := d + 11) (i7 ov (toX ov hv)) okX1 (Or.inl z1')
      rw [y2] at qs1
      rw [show h_n X1 ov = h_n S ov by omega] at qs2
      have A1 : Ans (d + 14) 195 [.ref 2, .int (nI k), .int (nI o)] X none X1 := Ans.of (by rw [m195]; exact Nat.le_of_ble_eq_true rfl) (Bod.lv (by rfl) (mAa_1 (d := d + 5) (by omega) (by omega) (by omega) qs1 (fun lv1 p0 p1 p2 p3 p4 => i8 lv1 p0 p1 p2 p3 (by rw [p4]; exact congrArg _ (congrArg _ (congrArg _ (by omega)))))))
      have A2 : Ans (d + 14) 195 [.ref 2, .int (nI k), .int (nI ov)] X1 none X2 := Ans.of (by rw [m195]; exact Nat.le_of_ble_eq_true rfl) (Bod.lv (by rfl) (mAa_1 (d := d + 5) (by omega) (by omega) (by omega) qs2 (fun lv1 p0 p1 p2 p3 p4 => j8 lv1 p0 p1 p2 p3 (by rw [p4]; exact congrArg _ (congrArg _ (congrArg _ (by omega)))))))
      refine Or.inl ⟨S', goC (mJl_2 (d := d + 6) (by omega) qo (by omega) qv (by omega) (by omega) (by omega) qs (by omega) qt hsz (by omega) A (by omega) A1 A2 c1'), fun p q => c2 p q, (((cf.trans i5).trans j5).trans c3).wide, fun P T gT Q β D z nn g0 g1 g3 g4 g5 gn Sr hX => ?_⟩
      obtain ⟨ta, tb, a1, a2, ⟨_, a3⟩, a4, b1', b2', ⟨_, b3⟩, b4, d1, d2⟩ := rd hX
      obtain ⟨β', D', W, hb, B, hX', hβ, hq⟩ := hR P T gT Q β D z nn g0 g1 g3 g4 g5 gn Sr hX
      obtain ⟨W1, hX1, sq1, lp1⟩ := i9 P T gT Q β' D' z nn g0 g1 g3 g4 g5 gn W hX'
      obtain ⟨W2, hX2, sq2, lp2⟩ := j9 P T gT Q β' D' z nn g0 g1 g3 g4 g5 gn W1 hX1
      obtain ⟨D2, hX3⟩ := c4 P T gT Q β' D' z nn g0 g1 g3 g4 g5 gn W2 hX2
      refine ⟨Q, β', D2, nn, g0, g1, g3, g4, g5, gn, _, goR ?_, hX3⟩
      have qa : sQ W 86 (β' o) = some ta := by rw [hβ o (hE o ho).2]; exact hq _ _ a1
      have qb : sQ W1 86 (β' ov) = some tb := by rw [sq1, hβ ov (hE ov hv).2]; exact hq _ _ b1'
      have hpa := lp1 ta qa
      have hpb := lp2 tb qb
      rw [Nat.sub_self] at hpa hpb
      obtain ⟨ta', _, _, _, _, _, _, _, _, _, x1, _, _, ⟨Na, x2⟩, _, _, _, _, _, x3, _⟩ := HR_o hX1.1 (i7 o (toX o ho))
      have ea : ta' = ta := Option.some.inj (x1.symm.trans (by rw [sq1]; exact qa))
      subst ea
      obtain ⟨tb', _, _, _, _, _, _, _, _, _, u1, _, _, ⟨Nb, u2⟩, _, _, _, _, _, u3, _⟩ := HR_o hX2.1 (j7 ov (i7 ov (toX ov hv)))
      have eb' : tb' = tb := Option.some.inj (u1.symm.trans (by rw [sq2]; exact qb))
      subst eb'
      have n1 : h_n X1 o = h_n S o := by
        have := (eqn (i6 o (toX o ho) (hE o ho).2) y1).2
        omega
      have n2 : h_n X2 ov = h_n S ov := by
        have := (eqn (j6 ov (i7 ov (toX ov hv)) (hE ov hv).2) z1').2
        omega
      rw [n1] at x3
      rw [n2] at u3
      refine rJl_1 (d := d + 6) bb.1 bb.2 a2 d1 b2' d2 a3 a4 (by omega) b3 b4 (by omega) hsz hb B (fun lv1 p0 p3 p4 p5 p6 => lpA (d := d + 6) (by omega) a2 b2' no (by omega) hpa (fun lv2 q0 q3 q4 q5 q6 => ?_) lv1 p0 p3 p4 p5 p6)
      refine rJlA_1 (d := d + 6) (zg2 := 0) q0 q3 q4 q5 q6 (by omega) (by omega) a2 b2' x2 x3 (by omega) (Nat.le_refl _) (fun lv3 s0 s4 s5 s6 => lpB (d := d + 6) (by omega) b2' nv (by omega) hpb (fun lv4 t0 t4 t5 t6 => ?_) lv3 s0 s4 s5 s6)
      exact rJlB_1 (d := d + 6) t0 t4 t5 t6 (by omega) (by omega) b2' u2 u3 (by omega) (Nat.le_refl _) hX2.2.2.2.2.2.1.1 (by omega) (by omega) (by rw [nI_ll (by omega)]; exact rpsh_T (d := d + 5) (kd := nI 3) (xa := lN (β' k)) (xb := 0) (S := W2) (by omega))
  · exact opR_err (e := 8) h (by omega) (goC (mJl_4 (d := d + 6) (by omega) qo (by omega) qv (by omega) (by omega) (by omega) qs (by omega) qt (by omega))) (fun P T gT Q β D z nn g0 g1 g3 g4 g5 gn Sr hX => by
      obtain ⟨ta, tb, a1, a2, ⟨_, a3⟩, a4, b1', b2', ⟨_, b3⟩, b4, c1, c2⟩ := rd hX
      exact goR (rJl_3 (d := d + 6) bb.1 bb.2 a2 c1 b2' c2 a3 a4 (by omega) b3 b4 (by omega) (by omega) (rfail_T (d := d + 5) 8 (by omega) Sr)))
end

