/-! DEEDS ON BOTH SIDES: attributes, what they need -/
section
variable {P : Nat → Prop} {T : cS} {gT : Nat} {Q : Nat → Prop} {β β' : Nat → Nat} {F : Nat → Nat → Nat → Prop} {loc par : Nat → Nat → Nat} {ty : Nat → Nat × Nat} {G : Nat → Nat → Nat → Nat × Nat × LL → Prop} {D D' K : List Nat} {z nn g0 g1 g3 g4 g5 gn d d' dr v o i k k0 e n nt m t tp tt r0 ob_ q rr : Nat} {tq : Nat → Nat × Nat} {C r : List Lv} {x : Lv} {S S' S1 X W Sc Sr : cS} {f g : Nat → Nat} {hi lo kh kl a b ka kb : Int64} {kd rb : Int32} {l' : List (Nat × Nat)} {s : Nat}
theorem set_V (h : CI F loc par ty G tq (x :: r) S) (hl : lob (vL x) + v ≤ vH x) (hk : lv S k) (hkd : c_width (h_kd S k) = 2 ∨ c_width (h_kd S k) = 4) (he : e < h_n S k) (ho : c_obj hi lo = nI o) (hol : o = 0 ∨ lv S o) (h0 : c_kind hi ≠ 0 ∧ c_kind hi ≠ nI 5) : ∃ X W S' D, Ans (d + 6) 174 [.ref 2, .int (nI k), .int (nI e), .long hi, .long lo] S none W ∧ Ans (d + 9) 141 [.ref 46, .int (nI v)] W none S' ∧ mtX k D S X S' ∧ (∀ p q, CI F loc par ty G tq (vAt x p q (vH x - v, vU x, vL x) :: r) S') ∧ (∀ i, i < topC (x :: r) - v → sL S' 47 i = sL S 47 i ∧ sL S' 48 i = sL S 48 i) ∧ h_n X k = h_n S k ∧ h_kd X k = h_kd S k ∧ (∀ i, i < h_n S k → h_hi X k i = (if i = e then hi else h_hi S k i) ∧ h_lo X k i = (if i = e then lo else h_lo S k i)) ∧ (c_width (h_kd S k) = 4 → ∀ i, i < h_n S k → h_kh X k i = h_kh S k i ∧ h_kl X k i = h_kl S k i) := by
  obtain ⟨l1, l2, l3, l4, l5⟩ := CI_len h
  have hok := mHS_ok h.1 k hk.1 hk.2.1
  obtain ⟨kd, z, k7, z3, k3, k10, ekd, ez, hw⟩ := kdz hok
  rw [ekd] at hkd
  have hn : h_n S k = z := by
    unfold h_n
    rw [ez, ekd, if_neg (by omega)]
  have hwid : c_width kd = 2 ∨ c_width kd = 4 := hkd
  obtain ⟨X, W, D, A1, hc, x10, xo, x1, x2⟩ := mset_T (d := d) (e := e) h.1 h.2.1 hk k3 k7 rfl k10 z3 (by omega) ho hol
  obtain ⟨S', K, A2, m1, m2, m3, m4⟩ := mpop_T (d := d) (v := v) hc.1 (by omega)
  have hM := mtX_of hc m2 (mHS_cl hc.1)
  obtain ⟨c1, c2, c3, c4, c5, c6, c7, c8, c9, c10, c11, c12, c13, c14, c15, c16⟩ := hc
  have eX : h_kd X k = h_kd S k := by unfold h_kd; rw [c12]
  have hnX : h_n X k = h_n S k := by
    unfold h_n h_z
    rw [eX, x10, k10]
  have ev : ∀ i, i < h_n S k → h_hi X k i = (if i = e then hi else h_hi S k i) ∧ h_lo X k i = (if i = e then lo else h_lo S k i) := fun i hi' => by
    unfold h_hi h_lo
    rw [eX, ekd, c16]
    by_cases c : i = e
    · rw [if_pos c, if_pos c, c]
      exact ⟨x1, x2⟩
    · rw [if_neg c, if_neg c]
      have u : ∀ q, q = h_at (c_width kd) i ∨ q = h_at (c_width kd) i + 1 → sL X (h_row S k) q = sL S (h_row S k) q := fun q hq => by
        unfold h_at at hq
        refine xo q ?_ ?_ ?_
        · rcases hwid with cw | cw
          · rw [cw] at hq ⊢; omega
          · rw [cw] at hq ⊢; omega
        · unfold h_at
          rcases hwid with cw | cw
          · rw [cw] at hq ⊢; omega
          · rw [cw] at hq ⊢; omega
        · unfold h_at
          rcases hwid with cw | cw
          · rw [cw] at hq ⊢; omega
          · rw [cw] at hq ⊢; omega
      exact ⟨u _ (Or.inl rfl), u _ (Or.inr rfl)⟩
  have ekk : c_width (h_kd S k) = 4 → ∀ i, i < h_n S k → h_kh X k i = h_kh S k i ∧ h_kl X k i = h_kl S k i := fun hw4 i hi' => by
    rw [ekd] at hw4
    unfold h_kh h_kl
    rw [c16]
    rw [hw4] at xo
    unfold h_at at xo
    exact ⟨xo _ (by omega) (by omega) (by omega), xo _ (by omega) (by omega) (by omega)⟩
  have hst : ∀ i, i < topC (x :: r) - v → sL S' 47 i = sL S 47 i ∧ sL S' 48 i = sL S 48 i := fun i _ => by
    rw [m3, c5, c11 47 (by omega), c11 48 (by omega)]
    exact ⟨rfl, rfl⟩
  refine ⟨X, W, S', D ++ K, A1, A2, hM, fun p q => ?_, hst, hnX, eX, ev, ekk⟩
  refine CI_mut h hM m1 (rwL_KX c2 m2) (fun c => ?_) (fun _ => ⟨fun i hi' => ?_, fun c2' i hi' => ?_⟩) hst (by omega) p q
  · rw [x10, k10]
  · obtain ⟨y1, y2⟩ := (h.2.2.2.1 k hk).2
    rw [hnX] at hi'
    rw [(ev i hi').1, c12]
    split
    · exact ⟨h0.2, fun _ => h0.1⟩
    · exact y1 i hi'
  · obtain ⟨y1, y2⟩ := (h.2.2.2.1 k hk).2
    rw [hnX] at hi'
    rw [c12] at c2'
    have e2 : c_width (h_kd S k) = 4 := by
      unfold h_kd
      rw [c2']
      rfl
    rw [(ekk e2 i hi').1]
    exact y2 c2' i hi'
theorem XR_isK (h : CI F loc par ty G tq (x :: r) S) (hX : XR P T gT Q β F D z nn g0 g1 g3 g4 g5 gn tq (x :: r) S Sr) (h1 : ob_ < vH x) (ho : c_obj (sL S 47 (topC (x :: r) - 1 - ob_)) (sL S 48 (topC (x :: r) - 1 - ob_)) = nI o) (hol : o = 0 ∨ lv S o) (ho2 : o ≤ 1500) : (∀ kq, 1 ≤ kq ∧ kq ≤ 7 → h_kd S o ≠ kq → Ans (d + 9) 363 [.ref 61, .int (nI (topC (x :: r) + offC (x :: r) - 1 - ob_)), .int (nI kq)] Sr (some (.int (nI 0))) Sr) ∧ ∀ kq, 1 ≤ kq ∧ kq ≤ 7 → h_kd S o = kq → lv S o ∧ Ans (d + 9) 363 [.ref 61, .int (nI (topC (x :: r) + offC (x :: r) - 1 - ob_)), .int (nI kq)] Sr (some (.int (nI 1))) Sr ∧ ∀ t, sQ Sr 86 (β o) = some t → tOk Sr (β o) t → Ans (d + 9) 361 [.ref 61, .int (nI (topC (x :: r) + offC (x :: r) - 1 - ob_))] Sr (some (.ref t)) Sr := by
  obtain ⟨l1, l2, l3, l4, l5⟩ := CI_len h
  have hT := CI_T h
  obtain ⟨e, e4, ea, ek⟩ := XR_k h hX h1
  obtain ⟨o', p1, p2, p3⟩ := vrel_ob (XR_v hX h1)
  have eo : o' = o := nI_j (by omega) (by omega) (p2.symm.trans ho)
  subst eo
  have hk2 : topC (x :: r) + offC (x :: r) - 1 - ob_ < 20480 := by omega
  by_cases e3 : e = 3
  · have hl : lv S o' := by
      rcases p3 with ⟨_, c⟩ | ⟨c, _⟩
      · exact absurd (by rw [ea, e3]) c
      · exact hol.resolve_left (by omega)
    have ha : sL Sr 92 (topC (x :: r) + offC (x :: r) - 1 - ob_) = lN (β o') := by
      rcases p3 with ⟨_, c⟩ | ⟨_, _, c⟩
      · exact absurd (by rw [ea, e3]) c
      · exact c
    obtain ⟨t, v2, v3, v4, v5, v6, v7, n, m, c1, c2, c3, c4, ⟨N, c5⟩, c6, c7, c8, c9, c10, _⟩ := XR_o h hX hl
    obtain ⟨kd, zz, k7, z3, k3, k10, hkd, hzz, hw⟩ := kdz (mHS_ok h.1 o' hl.1 hl.2.1)
    have c2' : sI Sr (100 * t + 0) = nI kd := by rw [c10, k3]
    refine ⟨fun kq hq hne => ?_, fun kq hq he => ⟨hl, ?_, fun t' t1 t2 => tha_T hk2 (by rw [ea, e3]) ha c1 t1 t2⟩⟩
    · obtain ⟨_, j⟩ := isT_T (d := d) (S := Sr) (o := β o') (kq := kq) hk2 (by omega) ea e4
      exact (j t N kd e3 ha c1 c2 c4 c5 c2' k7).2 (by omega)
    · obtain ⟨_, j⟩ := isT_T (d := d) (S := Sr) (o := β o') (kq := kq) hk2 (by omega) ea e4
      exact (j t N kd e3 ha c1 c2 c4 c5 c2' k7).1 (by omega)
  · have e0' : o' = 0 := by
      rcases p3 with ⟨c, _⟩ | ⟨_, c, _⟩
      · exact c
      · rw [ea] at c
        exact absurd (nI_j (by omega) (by omega) c) e3
    have hk0 : h_kd S o' = 0 := by
      rw [e0']
      unfold h_kd
      rw [CI_z0 h]
      rfl
    refine ⟨fun kq hq hne => (isT_T (d := d) (S := Sr) (o := 0) (kq := kq) hk2 (by omega) ea e4).1 e3, fun kq hq he => by omega⟩
/-- things and names of both -/
def XN (Q : Nat → Prop) (β : Nat → Nat) (F : Nat → Nat → Nat → Prop) (D : List Nat) (z nn g0 g1 g3 g4 g5 : Nat) (S Sr : cS) : Prop := HR Q β F D S Sr g0 g1 nn ∧ NMw F β S Sr z nn g0 g1 g3 g4 g5 ∧ nn < 2 ^ 18
theorem XN_of (hX : XR P T gT Q β F D z nn g0 g1 g3 g4 g5 gn tq C S Sr) : XN Q β F D z nn g0 g1 g3 g4 g5 S Sr := by
  obtain ⟨_, _, _, n1, n2, n3, _⟩ := hX.2.2.1
  exact ⟨hX.1, hX.2.1, by omega⟩
theorem XN_s (hX : XR P T gT Q β F D z nn g0 g1 g3 g4 g5 gn tq C S Sr) (hF : sFr tp Sr W) : XN Q β F D z nn g0 g1 g3 g4 g5 S W := by
  have h := XN_of hX
  have hgs := hX.2.2.1.2.2.2.2.2.2.2.1
  have hN := sFr_N hF ⟨hgs.1, hgs.2.1⟩
  exact ⟨HR_M (sFr_M hF) hN h.1, NMw_E h.2.1 rfl rfl rfl rfl hN (hF.2.2.2.2.2.2.1 g3 (nG_ne hgs.2.2.1 (by omega)) (nG_ne hgs.2.2.1 (by omega)) (nG_ne hgs.2.2.1 (by omega))) (hF.2.2.2.2.2.2.2.1 g4 (nG_ne hgs.2.2.2.1 (by omega)) (nG_ne hgs.2.2.2.1 (by omega))) (hF.2.2.2.2.2.2.2.1 g5 (nG_ne hgs.2.2.2.2 (by omega)) (nG_ne hgs.2.2.2.2 (by omega))), h.2.2⟩
/-- name q of the class is rr of the reference -/
theorem XR_nm (hX : XN Q β F D z nn g0 g1 g3 g4 g5 S Sr) (hF : F q 0 rr) : q < 4096 ∧ rr < nn ∧ rr < 2 ^ 18 ∧ rnH Sr g0 g1 rr = sL S 17 q ∧ rnL Sr g0 g1 rr = sL S 18 q := by
  obtain ⟨_, hz, ⟨e1, e2⟩, _, h6⟩ := hX.2.1
  obtain ⟨c1, c2, c3, c4⟩ := h6 q rr hF
  have n3 := hX.2.2
  exact ⟨by omega, c2, by omega, by rw [← e1]; exact c3.symm, by rw [← e2]; exact c4.symm⟩
theorem kat_iff {kk : Int32} (hX : XN Q β F D z nn g0 g1 g3 g4 g5 S Sr) (hF : F q 0 rr) {kd : Nat} (hkd : kd ≠ 2) (hk : keyR β Sr g0 g1 nn kd kh kl kk ka kb) : (kh = sL S 17 q ∧ kl = sL S 18 q) ↔ (kk = nI 0 ∧ ka = lN rr ∧ kb = 0) := by
  obtain ⟨q1, q2, q3, q4, q5⟩ := XR_nm hX hF
  unfold keyR at hk
  rw [if_neg hkd] at hk
  obtain ⟨h1, h2, r', h3, h4, h5, h6⟩ := hk
  have n3 := hX.2.2
  constructor
  · rintro ⟨c1, c2⟩
    have : r' = rr := hX.2.1.1.2.1 r' rr h3 q2 (by rw [h5, q4]; exact c1) (by rw [h6, q5]; exact c2)
    exact ⟨h1, by rw [h4, this], h2⟩
  · rintro ⟨c1, c2, c3⟩
    rw [h4] at c2
    have : r' = rr := lN_inj (by omega) (by omega) c2
    exact ⟨by rw [← h5, this, q4], by rw [← h6, this, q5]⟩
/-- the reference looks an attribute up -/
theorem find_A {oe : Option Nat} (hX : XN Q β F D z nn g0 g1 g3 g4 g5 S Sr) (hF : F q 0 rr) (hl : lv S k) (hkd : h_kd S k = 4 ∨ h_kd S k = 5) (hka : keyAt S k (sL S 17 q) (sL S 18 q) oe) (ht : sQ Sr 86 (β k) = some t) : Ans (d + 9) 399 [.ref t, .int (nI 0), .long ((nI rr).toInt64), .long 0] Sr (some (.int (fI oe))) Sr := by
  obtain ⟨q1, q2, q3, q4, q5⟩ := XR_nm hX hF
  obtain ⟨t', v2, v3, v4, v5, v6, v7, n, m, bt, t1, t2, t108, tS, wr, wd, wl, wj, f0, f1, fn, fv, f6, h87⟩ := HR_o hX.1 hl
  have es : t = t' := Option.some.inj (ht.symm.trans t1)
  subst es
  obtain ⟨fm, f6⟩ := f6 (by rcases hkd with c | c <;> rw [c] <;> rfl)
  rw [nI_ll (by omega)]
  exact find_R1 (d := d) hka wr f1 fm wj (fun j hj => kat_iff hX hF (by omega) (f6 j hj))
end
