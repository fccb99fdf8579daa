/-! DEEDS ON BOTH SIDES: a list of ints (the builtin range) -/
section
variable {P : Nat → Prop} {T : cS} {gT : Nat} {Q : Nat → Prop} {β β' : Nat → Nat} {F : Nat → Nat → Nat → Prop} {loc par : Nat → Nat → Nat} {ty : Nat → Nat × Nat} {G : Nat → Nat → Nat → Nat × Nat × LL → Prop} {D D' K : List Nat} {z nn g0 g1 g3 g4 g5 gn d d' dr v o i k k0 e n nt gv m t tp tt r0 : Nat} {tq : Nat → Nat × Nat} {C r : List Lv} {x : Lv} {S S' S1 X W Sc Sr : cS} {hi lo kh kl a b fs bh : Int64} {kd rb : Int32} {l' : List (Nat × Nat)} {s : Nat}
/-- how many ints there are from fs up to bh -/
def rgN (fs bh : Int64) : Nat := (bh.toInt - fs.toInt).toNat
theorem i64_lt {a b : Int64} : a < b ↔ a.toInt < b.toInt := Int64.lt_iff_toInt_lt
theorem i64_b (a : Int64) : -2 ^ 63 ≤ a.toInt ∧ a.toInt < 2 ^ 63 := ⟨Int64.le_toInt a, Int64.toInt_lt a⟩
theorem rg_sub : rgN fs bh < 2 ^ 64 ∧ (fs < bh → bh - fs = lN (rgN fs bh)) ∧ (¬ fs < bh → rgN fs bh = 0) := by
  have h1 := i64_b fs
  have h2 := i64_b bh
  unfold rgN
  refine ⟨by omega, fun h => ?_, fun h => ?_⟩
  · have h := i64_lt.mp h
    refine Int64.toInt_inj.mp ?_
    rw [Int64.toInt_sub, lN_int (by omega), Int.bmod_def]
    split <;> split <;> omega
  · have : ¬ fs.toInt < bh.toInt := fun c => h (i64_lt.mpr c)
    omega
theorem rg_at {j : Nat} (hj : j ≤ rgN fs bh) (hn : rgN fs bh ≤ 300) : (fs + lN j).toInt = fs.toInt + j := by
  have h1 := i64_b fs
  have h2 := i64_b bh
  unfold rgN at hj hn
  rw [Int64.toInt_add, lN_t (by omega), bm_i (by omega) (by omega)]
theorem rg_lt {j : Nat} (hj : j ≤ rgN fs bh) (hn : rgN fs bh ≤ 300) : fs + lN j < bh ↔ j < rgN fs bh := by
  rw [i64_lt]
  by_cases c : fs < bh
  · rw [rg_at hj hn]
    have := i64_lt.mp c
    unfold rgN
    omega
  · have h0 := rg_sub.2.2 c
    have hj0 : j = 0 := by omega
    rw [h0, hj0]
    have : ¬ fs.toInt < bh.toInt := fun c2 => c (i64_lt.mpr c2)
    have e : fs + lN 0 = fs := by
      rw [show lN 0 = 0 from rfl]
      exact Int64.add_zero fs
    rw [e]
    omega
theorem rg_next {j : Nat} : fs + lN j + 1 = fs + lN (j + 1) := by
  rw [Int64.add_assoc]
  congr 1
  unfold lN
  exact (Int64.ofNat_add j 1).symm
theorem le_300 {n : Nat} (hn : n < 2 ^ 64) : (n ≤ 300 → sm_c1 .lt (lg_cmp (lN n) 0) true false = false ∧ sm_c1 .le (lg_cmp (lN n) 300) true false = true) ∧ (300 < n → sm_c1 .lt (lg_cmp (lN n) 0) true false = true ∨ (sm_c1 .lt (lg_cmp (lN n) 0) true false = false ∧ sm_c1 .le (lg_cmp (lN n) 300) true false = false)) := by
  have e0 : (0 : Int64).toInt = 0 := rfl
  have e3 : (300 : Int64).toInt = 300 := rfl
  have hi := lN_int hn
  refine ⟨fun h => ⟨lg_lt.2 (fun c => ?_), ?_⟩, fun h => ?_⟩
  · have c := i64_lt.mp c
    rw [hi, e0] at c
    split at c <;> omega
  · by_cases c : lN n < 300
    · rw [cq_lt c]; decide
    · have e : lN n = 300 := by
        have c2 : ¬ (lN n).toInt < (300 : Int64).toInt := fun q => c (i64_lt.mpr q)
        refine Int64.toInt_inj.mp ?_
        rw [hi, e3] at c2 ⊢
        split at c2 <;> split <;> omega
      rw [e]
      decide
  · by_cases c : n < 2 ^ 63
    · right
      have hge : ¬ lN n < 0 := fun q => by
        have q := i64_lt.mp q
        rw [hi, if_pos c, e0] at q
        omega
      have hgt : (300 : Int64) < lN n := i64_lt.mpr (by rw [hi, if_pos c, e3]; omega)
      exact ⟨lg_lt.2 hge, by rw [cq_gt hgt]; decide⟩
    · left
      refine lg_lt.1 (i64_lt.mpr ?_)
      rw [hi, if_neg c, e0]
      omega
theorem sg_300 {n : Nat} : (n ≤ 300 → sm_c1 .le (sg (n : Int) (300 : Int)) true false = true) ∧ (300 < n → sm_c1 .le (sg (n : Int) (300 : Int)) true false = false) := by
  unfold sg
  constructor
  · intro h
    by_cases c : (n : Int) < 300
    · rw [if_pos c]; decide
    · rw [if_neg c, if_pos (by omega)]; decide
  · intro h
    rw [if_neg (by omega), if_neg (by omega)]; decide
theorem rg_loop {ba : Nat} (hn : rgN fs bh ≤ 300) (hba : ba < 2 ^ 20) (hgv : gv ≤ 2) (rem : Nat) : ∀ {X : cS}, CIk k F loc par ty G tq (x :: r) X → lv X k → h_kd X k = 1 → h_n X k + rem = rgN fs bh → ∃ X', CIk k F loc par ty G tq (x :: r) X' ∧ lv X' k ∧ CFm X X' ∧ (∀ v Sf, (∀ lv1, sm_get lv1 0 = some (.ref 49) → sm_get lv1 1 = some (.int (nI gv)) → sm_get lv1 2 = some (.long fs) → sm_get lv1 6 = some (.long (lN (rgN fs bh))) → sm_get lv1 8 = some (.int (nI k)) → sm_get lv1 9 = some (.int (nI (rgN fs bh))) → Bod (d + 8) 243 122 lv1 [] X' v Sf) → ∀ lv, sm_get lv 0 = some (.ref 49) → sm_get lv 1 = some (.int (nI gv)) → sm_get lv 2 = some (.long fs) → sm_get lv 6 = some (.long (lN (rgN fs bh))) → sm_get lv 8 = some (.int (nI k)) → sm_get lv 9 = some (.int (nI (rgN fs bh - rem))) → Bod (d + 8) 243 122 lv [] X v Sf) ∧ ∀ (P : Nat → Prop) (T : cS) (gT : Nat) (Q : Nat → Prop) (β : Nat → Nat) (D : List Nat) (z nn g0 g1 g3 g4 g5 gn : Nat) (Sr : cS), XR P T gT Q β F D z nn g0 g1 g3 g4 g5 gn tq (x :: r) X Sr → ∃ W, XR P T gT Q β F D z nn g0 g1 g3 g4 g5 gn tq (x :: r) X' W ∧ ∀ v Sf, (∀ lv1, sm_get lv1 0 = some (.ref 61) → sm_get lv1 1 = some (.int (nI ba)) → sm_get lv1 6 = some (.long bh) → sm_get lv1 10 = some (.int (nI (β k))) → sm_get lv1 11 = some (.long (fs + lN (rgN fs bh))) → Bod (dr + 10) 388 119 lv1 [] W v Sf) → ∀ lv, sm_get lv 0 = some (.ref 61) → sm_get lv 1 = some (.int (nI ba)) → sm_get lv 6 = some (.long bh) → sm_get lv 10 = some (.int (nI (β k))) → sm_get lv 11 = some (.long (fs + lN (rgN fs bh - rem))) → Bod (dr + 10) 388 119 lv [] Sr v Sf := by
  induction rem with
  | zero =>
    intro X h hk k1 hn'
    exact ⟨X, h, hk, CFm.refl X, fun v Sf hc lv q0 q1 q2 q6 q8 q9 => hc lv q0 q1 q2 q6 q8 q9, fun P T gT Q β D z nn g0 g1 g3 g4 g5 gn Sr hX => ⟨Sr, hX, fun v Sf hc lv q0 q1 q6 q10 q11 => hc lv q0 q1 q6 q10 q11⟩⟩
  | succ rem ih =>
    intro X h hk k1 hnn
    have hk2 := hk.2.1
    have hk1 := hk.1
    have w1 : c_width (h_kd X k) = 2 := by rw [k1]; rfl
    have m1 : c_most (h_kd X k) = 300 := by rw [k1]; rfl
    have ej : rgN fs bh - (rem + 1) = h_n X k := by omega
    rcases appk_W (d := d + 4) (kh := 0) (kl := 0) (hi := 2305843009213693952) (lo := fs + (nI (h_n X k)).toInt64) h hk (Or.inl w1) (by omega) (int_o _).1 (Or.inl rfl) (int_o (fs + (nI (h_n X k)).toInt64)).2 (fun c => by omega) with ⟨c, _⟩ | ⟨_, W, A, hM, hW, hst, hn', hk', hev, hv1, hv2, _⟩
    · omega
    · have hkW : lv W k := (hM.2.2.2.2.2.1 k).mpr hk
      obtain ⟨X', i1, i2, i3, i4, i5⟩ := ih hW hkW (by omega) (by omega)
      refine ⟨X', i1, i2, hM.2.1.trans i3, fun v Sf hc lv q0 q1 q2 q6 q8 q9 => ?_, fun P T gT Q β D z nn g0 g1 g3 g4 g5 gn Sr hX => ?_⟩
      · rw [ej] at q9
        have hlt : sm_c1 .ge (lg_cmp ((nI (h_n X k)).toInt64) (lN (rgN fs bh))) true false = false := by
          rw [nI_ll (by omega)]
          exact lg_ge.2 (i64_lt.mpr (by rw [lN_t (by omega), lN_t (by omega)]; omega))
        exact mRnL_2 q0 q1 q2 q6 q8 q9 (by omega) (by omega) (by omega) hlt A (fun lv1 a0 a1 a2 a6 a8 a9 => i4 v Sf hc lv1 a0 a1 a2 a6 a8 (by rw [a9]; exact congrArg _ (congrArg _ (congrArg _ (by omega)))))
      · have hb := (hX.1.ob hk).1
        obtain ⟨t, W', t1, t2, ⟨N, t3⟩, A', hX', _, _⟩ := add_XR (d := dr) (kd := nI 1) (a := fs + lN (h_n X k)) (b := 0) hX h.2.2.2.2.1 hM hk k1 (by omega) hst hn' hk' hev hv1 hv2 (by rw [nI_ll (by omega)]; exact Or.inr (Or.inr (Or.inl ⟨rfl, rfl, rfl⟩)))
        obtain ⟨W'', j1, j2⟩ := i5 P T gT Q β D z nn g0 g1 g3 g4 g5 gn W' hX'
        refine ⟨W'', j1, fun v Sf hc lv q0 q1 q6 q10 q11 => ?_⟩
        rw [ej] at q11
        have hlt : sm_c1 .ge (lg_cmp (fs + lN (h_n X k)) bh) true false = false := lg_ge.2 ((rg_lt (by omega) hn).mpr (by omega))
        exact rRgL_2 (d := dr + 2) q0 q1 q6 q10 q11 hba (by omega) hlt hb t2 t1 A' t3 (fun lv1 a0 a1 a6 a10 a11 => j2 v Sf hc lv1 a0 a1 a6 a10 (by rw [a11, rg_next]; exact congrArg _ (congrArg _ (congrArg _ (congrArg _ (by omega))))))
theorem cu_300 (hn : n < 2 ^ 64) : Ans (d + 10) 389 [.long (lN n), .long 300] S (some (.int (sg (n : Int) (300 : Int)))) S := by
  have := cu_T (d := d) (S := S) hn (show 300 < 2 ^ 64 by omega)
  rw [show lN 300 = 300 by decide] at this
  exact this
theorem rng_core {ba : Nat} (h : CI F loc par ty G tq (x :: r) S) (hx : vL x = ((i, 1) :: l', s)) (hgv : gv ≤ 2) (hi' : vH x - (gv + 1) ≤ i) (hl : lob (l', s) + (gv + 1) ≤ vH x) (hba : ba = topC (x :: r) + offC (x :: r) - (gv + 1))
    (cFail : 300 < rgN fs bh → Bod (d + 14) 243 0 [(0, .ref 49), (1, .int (nI gv))] [] S (some (.int (nI 8))) S)
    (cFull : rgN fs bh ≤ 300 → Ans (d + 14) 178 [.ref 2, .int (nI 1)] S (some (.int (nI 0))) S → Bod (d + 14) 243 0 [(0, .ref 49), (1, .int (nI gv))] [] S (some (.int (nI 8))) S)
    (cGo : rgN fs bh ≤ 300 → ∀ {k X v Sf}, k ≠ 0 → k < 2 ^ 20 → Ans (d + 14) 178 [.ref 2, .int (nI 1)] S (some (.int (nI k))) X → (∀ lv1, sm_get lv1 0 = some (.ref 49) → sm_get lv1 1 = some (.int (nI gv)) → sm_get lv1 2 = some (.long fs) → sm_get lv1 6 = some (.long (lN (rgN fs bh))) → sm_get lv1 8 = some (.int (nI k)) → sm_get lv1 9 = some (.int (nI 0)) → Bod (d + 14) 243 122 lv1 [] X v Sf) → Bod (d + 14) 243 0 [(0, .ref 49), (1, .int (nI gv))] [] S v Sf)
    (rFail : ∀ {P T gT Q β D z nn g0 g1 g3 g4 g5 gn Sr}, XR P T gT Q β F D z nn g0 g1 g3 g4 g5 gn tq (x :: r) S Sr → 300 < rgN fs bh → Bod (d + 14) 388 0 [(0, .ref 61), (1, .int (nI ba)), (2, .int (nI gv))] [] Sr (some (.int 0)) (wI 6164 (nI 8) Sr))
    (rFull : ∀ {P T gT Q β D z nn g0 g1 g3 g4 g5 gn Sr W}, XR P T gT Q β F D z nn g0 g1 g3 g4 g5 gn tq (x :: r) S Sr → rgN fs bh ≤ 300 → Ans (d + 14) 364 [.ref 61, .int (nI 1)] Sr (some (.int (Int32.ofInt (-1)))) W → Bod (d + 14) 388 0 [(0, .ref 61), (1, .int (nI ba)), (2, .int (nI gv))] [] Sr (some (.int 0)) W)
    (rGo : ∀ {P T gT Q β D z nn g0 g1 g3 g4 g5 gn Sr}, XR P T gT Q β F D z nn g0 g1 g3 g4 g5 gn tq (x :: r) S Sr → rgN fs bh ≤ 300 → ∀ {a W v Sf}, a < 1500 → Ans (d + 14) 364 [.ref 61, .int (nI 1)] Sr (some (.int (nI a))) W → (∀ lv1, sm_get lv1 0 = some (.ref 61) → sm_get lv1 1 = some (.int (nI ba)) → sm_get lv1 6 = some (.long bh) → sm_get lv1 10 = some (.int (nI a)) → sm_get lv1 11 = some (.long fs) → Bod (d + 14) 388 119 lv1 [] W v Sf) → Bod (d + 14) 388 0 [(0, .ref 61), (1, .int (nI ba)), (2, .int (nI gv))] [] Sr v Sf) :
    opR F loc par ty G tq (d + 15) 243 [.ref 49, .int (nI gv)] 388 [.ref 61, .int (nI ba), .int (nI gv)] x r (vH x - (gv + 1) + 1, vU x, (l', s)) S := by
  have m243 := ml_243
  have m388 := ml_388
  obtain ⟨l1, l2, l3, l4, l5⟩ := CI_len h
  have hT := CI_T h
  have hlab : labS (gv + 1) x (l', s) := Or.inr ⟨i, l', s, hx, hi', rfl⟩
  have goC : ∀ {e : Int32} {S'}, Bod (d + 14) 243 0 [(0, .ref 49), (1, .int (nI gv))] [] S (some (.int e)) S' → Ans (d + 15) 243 [.ref 49, .int (nI gv)] S (some (.int e)) S' := fun hb => Ans.of (by rw [m243]; exact Nat.le_of_ble_eq_true rfl) (Bod.lv (by rfl) hb)
  have goR : ∀ {Sr : cS} {e : Int32} {W : cS}, Bod (d + 14) 388 0 [(0, .ref 61), (1, .int (nI ba)), (2, .int (nI gv))] [] Sr (some (.int e)) W → Ans (d + 15) 388 [.ref 61, .int (nI ba), .int (nI gv)] Sr (some (.int e)) W := fun hb => Ans.of (by rw [m388]; exact Nat.le_of_ble_eq_true rfl) (Bod.lv (by rfl) hb)
  have hba20 : ba < 2 ^ 20 := by omega
  by_cases hN : rgN fs bh ≤ 300
  · rcases new_K (d := d + 12) (dr := d + 4) (kd := 1) (Or.inl rfl) h with ⟨hf, A⟩ | ⟨_, k, X, A, hk, hlk, k1, kn, cf, _, hE, hR⟩
    · refine Or.inr ⟨8, S, by omega, goC (cFull hN A), h, CFr.refl S, fun P T gT Q β D z nn g0 g1 g3 g4 g5 gn Sr hX => ?_⟩
      obtain ⟨S1, D', b1, b2⟩ := (new_R (d := d + 4) (kd := nI 1) h hX).1 hf
      exact ⟨Q, β, D', nn, g0, g1, g3, g4, g5, gn, _, goR (rFull hX hN b1), rIe _ _ _, XRe_I (XR_XRe b2 (CI_lob h)) (Or.inl rfl)⟩
    · have hk1 := hlk.1
      have hk2 := hlk.2.1
      obtain ⟨X', i1, i2, i3, i4, i5⟩ := rg_loop (d := d + 6) (dr := d + 4) (gv := gv) hN hba20 hgv (rgN fs bh) hk hlk k1 (by omega)
      obtain ⟨S', c1, c2, c3, c4⟩ := give_k (d := d + 5) (v := gv + 1) (l2 := (l', s)) i1 i2 hlab hl (by omega)
      have c1' : Ans (d + 14) 148 [.ref 46, .int (nI (gv + 1)), .long ((4611686018427387904)), .long ((nI k).toInt64)] X' (some (.int (nI 0))) S' := by rw [nI_ll (by omega)]; exact c1
      have hge : sm_c1 .ge (lg_cmp ((nI (rgN fs bh)).toInt64) (lN (rgN fs bh))) true false = true := by
        rw [nI_ll (by omega)]
        exact lg_ge.1 (fun c => by have := i64_lt.mp c; omega)
      refine Or.inl ⟨S', goC (cGo hN (by omega) (by omega) A (fun lv1 p0 p1 p2 p6 p8 p9 => i4 _ _ (fun lv2 q0 q1 q2 q6 q8 q9 => mRnL_1 (d := d + 6) q0 q1 q2 q6 q8 q9 (by omega) (by omega) (by omega) hge c1') lv1 p0 p1 p2 p6 p8 (by rw [p9]; exact congrArg _ (congrArg _ (congrArg _ (by omega)))))), fun p q => c2 p q, ((cf.trans i3).trans c3).wide, fun P T gT Q β D z nn g0 g1 g3 g4 g5 gn Sr hX => ?_⟩
      obtain ⟨β', D', W, hb, B, hX', _⟩ := hR P T gT Q β D z nn g0 g1 g3 g4 g5 gn Sr hX
      obtain ⟨W', hX2, j2⟩ := i5 P T gT Q β' D' z nn g0 g1 g3 g4 g5 gn W hX'
      obtain ⟨D2, hX3⟩ := c4 P T gT Q β' D' z nn g0 g1 g3 g4 g5 gn W' hX2
      have hge2 : sm_c1 .ge (lg_cmp (fs + lN (rgN fs bh)) bh) true false = true := lg_ge.1 (fun c => by have := (rg_lt (Nat.le_refl _) hN).mp c; omega)
      rw [← hba] at hX3
      refine ⟨Q, β', D2, nn, g0, g1, g3, g4, g5, gn, _, goR (rGo hX hN hb B (fun lv1 p0 p1 p6 p10 p11 => j2 _ _ (fun lv2 q0 q1 q6 q10 q11 => ?_) lv1 p0 p1 p6 p10 (by rw [p11, Nat.sub_self, show lN 0 = 0 from rfl, Int64.add_zero]))), hX3⟩
      exact rRgL_1 (d := d + 6) q0 q1 q6 q10 q11 hba20 (by omega) hge2 (by rw [nI_ll (by omega)]; exact rpsh_T (d := d + 5) (kd := nI 3) (xa := lN (β' k)) (xb := 0) (S := W') (by omega))
  · exact opR_err (e := 8) h (by omega) (goC (cFail (by omega))) (fun P T gT Q β D z nn g0 g1 g3 g4 g5 gn Sr hX => goR (rFail hX (by omega)))
theorem rng1_R (h : CI F loc par ty G tq (x :: r) S) (hx : vL x = ((i, 1) :: l', s)) (hi' : vH x - 2 ≤ i) (hl : lob (l', s) + 2 ≤ vH x) : opR F loc par ty G tq (d + 15) 243 [.ref 49, .int (nI 1)] 388 [.ref 61, .int (nI (topC (x :: r) + offC (x :: r) - 2)), .int (nI 1)] x r (vH x - 2 + 1, vU x, (l', s)) S := by
  have m243 := ml_243
  have m388 := ml_388
  obtain ⟨l1, l2, l3, l4, l5⟩ := CI_len h
  have hT := CI_T h
  have eb : topC (x :: r) + offC (x :: r) - 1 - 0 = topC (x :: r) + offC (x :: r) - 2 + 1 := by omega
  have bb : topC (x :: r) + offC (x :: r) - 2 < 2 ^ 20 := by omega
  have b2 : topC (x :: r) + offC (x :: r) - 2 + 1 < 20480 := by omega
  have q0 := hi_ev (d := d + 12) (b := 0) l3 (by omega) (by omega)
  have w0 := lo_ev (d := d + 12) (b := 0) l3 (by omega) (by omega)
  have qk := kindOf_ev (d := d + 13) (S := S) (hi := sL S 47 (topC (x :: r) - 1 - 0))
  by_cases kI : c_kind (sL S 47 (topC (x :: r) - 1 - 0)) = nI 2
  · obtain ⟨n1, n2, n3⟩ := rg_sub (fs := 0) (bh := sL S 48 (topC (x :: r) - 1 - 0))
    have rd : ∀ {P T gT Q β D z nn g0 g1 g3 g4 g5 gn Sr}, XR P T gT Q β F D z nn g0 g1 g3 g4 g5 gn tq (x :: r) S Sr → sA Sr 91 (topC (x :: r) + offC (x :: r) - 2 + 1) = nI 1 ∧ sL Sr 92 (topC (x :: r) + offC (x :: r) - 2 + 1) = sL S 48 (topC (x :: r) - 1 - 0) := fun {P T gT Q β D z nn g0 g1 g3 g4 g5 gn Sr} hX => by
      have u0 := XR_v hX (i := 0) (by omega)
      rw [eb] at u0
      exact ⟨(vr_int u0).1.mp kI, ((vr_int u0).2 kI).2⟩
    have e00 : (0 : Int64) = lN 0 := rfl
    by_cases hlt : (0 : Int64) < sL S 48 (topC (x :: r) - 1 - 0)
    · have hs := n2 hlt
      refine rng_core (d := d) (gv := 1) (ba := topC (x :: r) + offC (x :: r) - 2) (fs := 0) (bh := sL S 48 (topC (x :: r) - 1 - 0)) h hx (by omega) hi' hl (by omega) (fun hN => ?_) (fun hN A => ?_) (fun hN => ?_) (fun hX hN => ?_) (fun hX hN A => ?_) (fun hX hN => ?_)
      · rcases (le_300 n1).2 hN with c | ⟨c, c2⟩
        · exact mRn1__5 (d := d + 6) q0 qk kI w0 (lg_ge.2 hlt) (by rw [hs]; exact c)
        · exact mRn1__8 (d := d + 6) q0 qk kI w0 (lg_ge.2 hlt) (by rw [hs]; exact c) (by rw [hs]; exact c2)
      · obtain ⟨c, c2⟩ := (le_300 n1).1 hN
        exact mRn1__7 (d := d + 6) q0 qk kI w0 (lg_ge.2 hlt) (by rw [hs]; exact c) (by rw [hs]; exact c2) (by omega) A rfl
      · intro k X v Sf k0 k20 A hc
        obtain ⟨c, c2⟩ := (le_300 n1).1 hN
        exact mRn1__6 (d := d + 6) q0 qk kI w0 (lg_ge.2 hlt) (by rw [hs]; exact c) (by rw [hs]; exact c2) k20 A k0 (fun lv1 p0 p1 p2 p6 p8 p9 => hc lv1 p0 p1 p2 (by rw [p6, hs]) p8 p9)
      · obtain ⟨r1, r2⟩ := rd hX
        exact rRg1_7 (d := d + 6) bb b2 r1 (by omega) rfl (by rw [r2]; exact lg_ge.2 hlt) (by rw [r2, hs]; exact cu_300 (d := d + 4) n1) (sg_300.2 hN) (rfail_T (d := d + 5) 8 (by omega) _)
      · obtain ⟨r1, r2⟩ := rd hX
        exact rRg1_6 (d := d + 6) bb b2 r1 (by omega) rfl (by rw [r2]; exact lg_ge.2 hlt) (by rw [r2, hs]; exact cu_300 (d := d + 4) n1) (sg_300.1 hN) A
      · intro a W v Sf ha A hc
        obtain ⟨r1, r2⟩ := rd hX
        exact rRg1_5 (d := d + 6) bb b2 r1 (by omega) rfl (by rw [r2]; exact lg_ge.2 hlt) (by rw [r2, hs]; exact cu_300 (d := d + 4) n1) (sg_300.1 hN) ha A (fun lv1 p0 p1 p6 p10 p11 => hc lv1 p0 p1 (by rw [p6, r2]) p10 p11)
    · have hs := n3 hlt
      refine rng_core (d := d) (gv := 1) (ba := topC (x :: r) + offC (x :: r) - 2) (fs := 0) (bh := sL S 48 (topC (x :: r) - 1 - 0)) h hx (by omega) hi' hl (by omega) (fun hN => by omega) (fun hN A => ?_) (fun hN => ?_) (fun hX hN => by omega) (fun hX hN A => ?_) (fun hX hN => ?_)
      · exact mRn1__3 (d := d + 6) q0 qk kI w0 (lg_ge.1 hlt) (by decide) (by decide) (by omega) A rfl
      · intro k X v Sf k0 k20 A hc
        exact mRn1__2 (d := d + 6) q0 qk kI w0 (lg_ge.1 hlt) (by decide) (by decide) k20 A k0 (fun lv1 p0 p1 p2 p6 p8 p9 => hc lv1 p0 p1 p2 (by rw [p6, hs]; rfl) p8 p9)
      · obtain ⟨r1, r2⟩ := rd hX
        exact rRg1_3 (d := d + 6) bb b2 r1 (by omega) rfl (by rw [r2]; exact lg_ge.1 hlt) (cu_300 (n := 0) (d := d + 4) (by omega)) (by decide) A
      · intro a W v Sf ha A hc
        obtain ⟨r1, r2⟩ := rd hX
        exact rRg1_2 (d := d + 6) bb b2 r1 (by omega) rfl (by rw [r2]; exact lg_ge.1 hlt) (cu_300 (n := 0) (d := d + 4) (by omega)) (by decide) ha A (fun lv1 p0 p1 p6 p10 p11 => hc lv1 p0 p1 (by rw [p6, r2]) p10 p11)
  · refine opR_err (e := 2) h (by omega) (Ans.of (by rw [m243]; exact Nat.le_of_ble_eq_true rfl) (Bod.lv (by rfl) (mRn1__9 (d := d + 6) q0 qk kI))) (fun P T gT Q β D z nn g0 g1 g3 g4 g5 gn Sr hX => ?_)
    obtain ⟨y, y4, ya, yk⟩ := XR_k h hX (i := 0) (by omega)
    rw [eb] at ya
    exact Ans.of (by rw [m388]; exact Nat.le_of_ble_eq_true rfl) (Bod.lv (by rfl) (rRg1_1 (d := d + 6) bb b2 ya (by omega) (fun c => kI (by rw [yk, c])) (rfail_T (d := d + 5) 2 (by omega) Sr)))
theorem rng2_R (h : CI F loc par ty G tq (x :: r) S) (hx : vL x = ((i, 1) :: l', s)) (hi' : vH x - 3 ≤ i) (hl : lob (l', s) + 3 ≤ vH x) : opR F loc par ty G tq (d + 15) 243 [.ref 49, .int (nI 2)] 388 [.ref 61, .int (nI (topC (x :: r) + offC (x :: r) - 3)), .int (nI 2)] x r (vH x - 3 + 1, vU x, (l', s)) S := by
  have m243 := ml_243
  have m388 := ml_388
  obtain ⟨l1, l2, l3, l4, l5⟩ := CI_len h
  have hT := CI_T h
  have eb : topC (x :: r) + offC (x :: r) - 1 - 1 = topC (x :: r) + offC (x :: r) - 3 + 1 := by omega
  have ev : topC (x :: r) + offC (x :: r) - 1 - 0 = topC (x :: r) + offC (x :: r) - 3 + 2 := by omega
  have bb : topC (x :: r) + offC (x :: r) - 3 < 2 ^ 20 := by omega
  have b2 : topC (x :: r) + offC (x :: r) - 3 + 1 < 20480 := by omega
  have b3 : topC (x :: r) + offC (x :: r) - 3 + 2 < 20480 := by omega
  have q1 := hi_ev (d := d + 12) (b := 1) l3 (by omega) (by omega)
  have w1 := lo_ev (d := d + 12) (b := 1) l3 (by omega) (by omega)
  have qk1 := kindOf_ev (d := d + 13) (S := S) (hi := sL S 47 (topC (x :: r) - 1 - 1))
  have q0 := hi_ev (d := d + 12) (b := 0) l3 (by omega) (by omega)
  have w0 := lo_ev (d := d + 12) (b := 0) l3 (by omega) (by omega)
  have qk := kindOf_ev (d := d + 13) (S := S) (hi := sL S 47 (topC (x :: r) - 1 - 0))
  by_cases kI : c_kind (sL S 47 (topC (x :: r) - 1 - 0)) = nI 2
  · by_cases kJ : c_kind (sL S 47 (topC (x :: r) - 1 - 1)) = nI 2
    · obtain ⟨n1, n2, n3⟩ := rg_sub (fs := sL S 48 (topC (x :: r) - 1 - 1)) (bh := sL S 48 (topC (x :: r) - 1 - 0))
      have rd : ∀ {P T gT Q β D z nn g0 g1 g3 g4 g5 gn Sr}, XR P T gT Q β F D z nn g0 g1 g3 g4 g5 gn tq (x :: r) S Sr → sA Sr 91 (topC (x :: r) + offC (x :: r) - 3 + 1) = nI 1 ∧ sA Sr 91 (topC (x :: r) + offC (x :: r) - 3 + 2) = nI 1 ∧ sL Sr 92 (topC (x :: r) + offC (x :: r) - 3 + 1) = sL S 48 (topC (x :: r) - 1 - 1) ∧ sL Sr 92 (topC (x :: r) + offC (x :: r) - 3 + 2) = sL S 48 (topC (x :: r) - 1 - 0) := fun {P T gT Q β D z nn g0 g1 g3 g4 g5 gn Sr} hX => by
        have u0 := XR_v hX (i := 0) (by omega)
        have u1 := XR_v hX (i := 1) (by omega)
        rw [ev] at u0
        rw [eb] at u1
        exact ⟨(vr_int u1).1.mp kJ, (vr_int u0).1.mp kI, ((vr_int u1).2 kJ).2, ((vr_int u0).2 kI).2⟩
      by_cases hlt : sL S 48 (topC (x :: r) - 1 - 1) < sL S 48 (topC (x :: r) - 1 - 0)
      · have hs := n2 hlt
        refine rng_core (d := d) (gv := 2) (ba := topC (x :: r) + offC (x :: r) - 3) (fs := sL S 48 (topC (x :: r) - 1 - 1)) (bh := sL S 48 (topC (x :: r) - 1 - 0)) h hx (by omega) hi' hl (by omega) (fun hN => ?_) (fun hN A => ?_) (fun hN => ?_) (fun hX hN => ?_) (fun hX hN A => ?_) (fun hX hN => ?_)
        · rcases (le_300 n1).2 hN with c | ⟨c, c2⟩
          · exact mRn2__5 (d := d + 6) q0 qk kI q1 qk1 kJ w1 w0 (lg_ge.2 hlt) (by rw [hs]; exact c)
          · exact mRn2__8 (d := d + 6) q0 qk kI q1 qk1 kJ w1 w0 (lg_ge.2 hlt) (by rw [hs]; exact c) (by rw [hs]; exact c2)
        · obtain ⟨c, c2⟩ := (le_300 n1).1 hN
          exact mRn2__7 (d := d + 6) q0 qk kI q1 qk1 kJ w1 w0 (lg_ge.2 hlt) (by rw [hs]; exact c) (by rw [hs]; exact c2) (by omega) A rfl
        · intro k X v Sf k0 k20 A hc
          obtain ⟨c, c2⟩ := (le_300 n1).1 hN
          exact mRn2__6 (d := d + 6) q0 qk kI q1 qk1 kJ w1 w0 (lg_ge.2 hlt) (by rw [hs]; exact c) (by rw [hs]; exact c2) k20 A k0 (fun lv1 p0 p1 p2 p6 p8 p9 => hc lv1 p0 p1 p2 (by rw [p6, hs]) p8 p9)
        · obtain ⟨r1, r2, r3, r4⟩ := rd hX
          exact rRg2_7 (d := d + 6) bb b2 r1 (by omega) rfl b3 r2 (by omega) rfl (by rw [r3, r4]; exact lg_ge.2 hlt) (by rw [r3, r4, hs]; exact cu_300 (d := d + 4) n1) (sg_300.2 hN) (rfail_T (d := d + 5) 8 (by omega) _)
        · obtain ⟨r1, r2, r3, r4⟩ := rd hX
          exact rRg2_6 (d := d + 6) bb b2 r1 (by omega) rfl b3 r2 (by omega) rfl (by rw [r3, r4]; exact lg_ge.2 hlt) (by rw [r3, r4, hs]; exact cu_300 (d := d + 4) n1) (sg_300.1 hN) A
        · intro a W v Sf ha A hc
          obtain ⟨r1, r2, r3, r4⟩ := rd hX
          exact rRg2_5 (d := d + 6) bb b2 r1 (by omega) rfl b3 r2 (by omega) rfl (by rw [r3, r4]; exact lg_ge.2 hlt) (by rw [r3, r4, hs]; exact cu_300 (d := d + 4) n1) (sg_300.1 hN) ha A (fun lv1 p0 p1 p6 p10 p11 => hc lv1 p0 p1 (by rw [p6, r4]) p10 (by rw [p11, r3]))
      · have hs := n3 hlt
        refine rng_core (d := d) (gv := 2) (ba := topC (x :: r) + offC (x :: r) - 3) (fs := sL S 48 (topC (x :: r) - 1 - 1)) (bh := sL S 48 (topC (x :: r) - 1 - 0)) h hx (by omega) hi' hl (by omega) (fun hN => by omega) (fun hN A => ?_) (fun hN => ?_) (fun hX hN => by omega) (fun hX hN A => ?_) (fun hX hN => ?_)
        · exact mRn2__3 (d := d + 6) q0 qk kI q1 qk1 kJ w1 w0 (lg_ge.1 hlt) (by decide) (by decide) (by omega) A rfl
        · intro k X v Sf k0 k20 A hc
          exact mRn2__2 (d := d + 6) q0 qk kI q1 qk1 kJ w1 w0 (lg_ge.1 hlt) (by decide) (by decide) k20 A k0 (fun lv1 p0 p1 p2 p6 p8 p9 => hc lv1 p0 p1 p2 (by rw [p6, hs]; rfl) p8 p9)
        · obtain ⟨r1, r2, r3, r4⟩ := rd hX
          exact rRg2_3 (d := d + 6) bb b2 r1 (by omega) rfl b3 r2 (by omega) rfl (by rw [r3, r4]; exact lg_ge.1 hlt) (cu_300 (n := 0) (d := d + 4) (by omega)) (by decide) A
        · intro a W v Sf ha A hc
          obtain ⟨r1, r2, r3, r4⟩ := rd hX
          exact rRg2_2 (d := d + 6) bb b2 r1 (by omega) rfl b3 r2 (by omega) rfl (by rw [r3, r4]; exact lg_ge.1 hlt) (cu_300 (n := 0) (d := d + 4) (by omega)) (by decide) ha A (fun lv1 p0 p1 p6 p10 p11 => hc lv1 p0 p1 (by rw [p6, r4]) p10 (by rw [p11, r3]))
    · refine opR_err (e := 2) h (by omega) (Ans.of (by rw [m243]; exact Nat.le_of_ble_eq_true rfl) (Bod.lv (by rfl) (mRn2__9 (d := d + 6) q0 qk kI q1 qk1 kJ))) (fun P T gT Q β D z nn g0 g1 g3 g4 g5 gn Sr hX => ?_)
      obtain ⟨y, y4, ya, yk⟩ := XR_k h hX (i := 1) (by omega)
      rw [eb] at ya
      exact Ans.of (by rw [m388]; exact Nat.le_of_ble_eq_true rfl) (Bod.lv (by rfl) (rRg2_1 (d := d + 6) bb b2 ya (by omega) (fun c => kJ (by rw [yk, c])) (rfail_T (d := d + 5) 2 (by omega) Sr)))
  · refine opR_err (e := 2) h (by omega) (Ans.of (by rw [m243]; exact Nat.le_of_ble_eq_true rfl) (Bod.lv (by rfl) (mRn2__10 (d := d + 6) q0 qk kI))) (fun P T gT Q β D z nn g0 g1 g3 g4 g5 gn Sr hX => ?_)
    obtain ⟨y, y4, ya, yk⟩ := XR_k h hX (i := 0) (by omega)
    obtain ⟨y', y4', ya', yk'⟩ := XR_k h hX (i := 1) (by omega)
    rw [ev] at ya
    rw [eb] at ya'
    by_cases c1 : y' = 1
    · exact Ans.of (by rw [m388]; exact Nat.le_of_ble_eq_true rfl) (Bod.lv (by rfl) (rRg2_8 (d := d + 6) bb b2 ya' (by omega) c1 b3 ya (by omega) (fun c => kI (by rw [yk, c])) (rfail_T (d := d + 5) 2 (by omega) Sr)))
    · exact Ans.of (by rw [m388]; exact Nat.le_of_ble_eq_true rfl) (Bod.lv (by rfl) (rRg2_1 (d := d + 6) bb b2 ya' (by omega) c1 (rfail_T (d := d + 5) 2 (by omega) Sr)))
end
