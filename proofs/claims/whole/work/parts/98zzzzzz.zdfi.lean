/-! STATEMENTS OF THE REFERENCE: def, whole -/
section
variable {β : Nat → Nat} {n : Nat} {E : Nat → Nat → Bool} {V : Nat → Int32} {T : Nat → Nat × Nat} {P : Nat → Int32 → Int32 × Int32} {A : Prop} {own0 : Nat → Nat × Nat} {m u k1 : Nat} {S0 Sb S S1 S2 : cS} {H B0 W d c w t f b a F s : Nat} {l : List Int32} {X : Nat → Nat}
theorem psDef_n {K L : Nat → Nat} {R : RsT} {dp ind s ca ra k : Nat} {sc : SCs} {at' : List Nat} (h : ¬(K (k + 1) = 3 ∧ K (k + 2) = 6 ∧ psPs K E sc.1.length (sc.1 ++ [(s, ca + 2, ra + 2, k + 1)], sc.2) (k + 3) ≠ none)) : psDef K L E R dp ind s ca ra sc at' k = .inl (L k) := by
  unfold psDef
  by_cases e : K (k + 1) = 3 ∧ K (k + 2) = 6
  · rw [if_pos e]
    cases hp : psPs K E sc.1.length (sc.1 ++ [(s, ca + 2, ra + 2, k + 1)], sc.2) (k + 3) with
    | none => rfl
    | some x => exact absurd ⟨e.1, e.2, by rw [hp]; exact fun q => by cases q⟩ h
  · rw [if_neg e]
theorem psDef_s {K L : Nat → Nat} {R : RsT} {dp ind s ca ra k k2 c2 : Nat} {sc sc2 : SCs} {at' : List Nat} (h1 : K (k + 1) = 3) (h2 : K (k + 2) = 6) (h3 : psPs K E sc.1.length (sc.1 ++ [(s, ca + 2, ra + 2, k + 1)], sc.2) (k + 3) = some (k2, sc2, c2)) : psDef K L E R dp ind s ca ra sc at' k = sb (R 2 (dp + 1) ind sc.1.length none 0 (ca + 2) (ra + 2) sc2 at' k2) fun b => .inr (b.1, dfO (sc.1.length - 1) ((5 + wC b.2.1 : Nat) : Int) ((3 + wR K b.2.1 : Nat) : Int) b.2.1, b.2.2.1, at') := by
  unfold psDef
  rw [if_pos ⟨h1, h2⟩, h3]
  rfl
/-- with its name bound, or not -/
def dfR (K L : Nat → Nat) (E : Nat → Nat → Bool) (R : RsT) (lb dp ind s ca ra : Nat) (sc : SCs) (at' : List Nat) (k : Nat) : PSr := if lb = 0 then psDef K L E R dp ind s ca ra sc at' k else psDf K L E R dp ind s ca ra sc at' k
theorem zBd_sb {opn : Nat → Nat} {dp l : Nat} {r : PSr} {f : PT → PSr} (hf : ∀ x, ∃ y, f x = .inr y ∧ y.1 = x.1) (h : zBd β n opn dp r l) : zBd β n opn dp (sb r f) l := by
  rcases h with ⟨q, h1, h2⟩ | ⟨x, h1, h2, h3, h4⟩
  · exact Or.inl ⟨q, by rw [h1]; rfl, h2⟩
  · obtain ⟨y, y1, y2⟩ := hf x
    exact Or.inr ⟨y, by rw [h1]; exact y1, by rw [y2]; exact h2, fun i hi => by rw [y2]; exact h3 i hi, by rw [y2]; exact h4⟩
set_option maxHeartbeats 4000000 in
theorem z_dfn {z dp ind tr ca af k F D lb : Nat} {opn : Nat → Nat} {lp : LpT} {sc : SCs} {at' : List Nat} (hX : zX β n V own0 m k1 S0) (hz : z = 0 ∨ z = 1) (hE : eqV E (qK β n) V) (hB : ZB β n E V T own0 m u k1 S0 H B0 W F 0) (h : zIs β n E V T own0 m u k1 S0 H B0 W z opn dp ind s lp tr sc at' X af c w t b k S) (hK : qK β n k = 46) (hF : 4 * rem β n k ≤ F + 4) (hD : lvZ dp ≤ D + 1) (hlb : lb < 2) : ∃ S1 v, Ans D 336 [.ref 61, .int (nI ind), .int (nI lb)] S (some (.int v)) S1 ∧ ((∃ l, zBd β n opn (dp + 1) (dfR (qK β n) (qL β n) E (ps (qK β n) (qL β n) (qI β n) E F) lb dp ind s ca c sc at' k) l ∧ v = nI 0 ∧ zB own0 m u S0 H B0 W l S1) ∨ ∃ x, dfR (qK β n) (qL β n) E (ps (qK β n) (qL β n) (qI β n) E F) lb dp ind s ca c sc at' k = .inr x ∧ v = nI 1 ∧ zG β n E V T own0 m u k1 S0 H B0 z ind lp sc at' X af S c w t b k x S1 ∧ wR (qK β n) x.2.1 + 8 + 13 * rem β n x.1 ≤ 13 * rem β n k) := by
  have hlv : lvZ dp = 260 + 4 * (12 - dp) := rfl
  obtain ⟨d, rfl⟩ : ∃ d, D = d + 13 := ⟨D - 13, by omega⟩
  have ml : ∀ {v' : Int32} {Sf : cS}, Bod (d + 12) 336 0 [(0, .ref 61), (1, .int (nI ind)), (2, .int (nI lb))] [] S (some (.int v')) Sf → Ans (d + 13) 336 [.ref 61, .int (nI ind), .int (nI lb)] S (some (.int v')) Sf := fun p => Ans.of (by rw [ml_336]; exact Nat.le_of_ble_eq_true rfl) p
  have hbad : ∀ q, psDef (qK β n) (qL β n) E (ps (qK β n) (qL β n) (qI β n) E F) dp ind s ca c sc at' k = .inl q → dfR (qK β n) (qL β n) E (ps (qK β n) (qL β n) (qI β n) E F) lb dp ind s ca c sc at' k = .inl q := fun q hq => by
    unfold dfR
    split
    · exact hq
    · unfold psDf
      rw [hq]
      rfl
  obtain ⟨h0, ⟨r1, r2, r3, r4⟩, hls, hK1, hI, hx1, hx2, hx3⟩ := id h
  rcases df_1 (d := d + 1) (ca := ca + 2) (lb := lb) hX hE h hK hlb with ⟨n1, Sf, n2, n3⟩ | ⟨e3, e6, k2, sc2, l2, Sb, Sp, r, p1, p2, p3, p4, p5, p6, p7, p8, p9, p10, p11, p12, p13, p14, ⟨p15, p16⟩, p17, p18, p19, p20, p21, p22, p23, p24, p25⟩
  · exact ⟨Sf, nI 0, ml n2, Or.inl ⟨_, by rw [hbad _ (psDef_n n1)]; exact zB_in (q := qL β n k) rfl, rfl, n3⟩⟩
  obtain ⟨q, rfl⟩ : ∃ q, k2 = q + 1 := ⟨k2 - 1, by omega⟩
  have p5' : zPs own0 m u S0 H B0 c w t (sc.1.length - 1 + 1) b (X 1 + 1) (X 3) l2 q Sb Sp := p5
  have p10' : qK β n q = 7 := p10
  obtain ⟨h1, h2, h3, h4, h5, h6, h7, h8, h9, h10, h11, h12, h13⟩ := id h0
  obtain ⟨⟨c01, c02, c03, c04, c05⟩, ⟨c11, c12⟩, ⟨c21, c22, c23⟩, ⟨tr', c31, c32, c33⟩, c4, c5, ⟨c61, c62⟩, ⟨c71, c72, c73, c74⟩, ⟨c81, c82⟩, c9, c10⟩ := id h4
  have hm1 := hX.2.2.2.2.1
  have hk1 := hX.2.1
  have hiM := k_i (k := k) hX
  obtain ⟨q5, q6⟩ := rem_ge hK1
  have hkk1 : k < k1 := q_end hX h7 hK1
  have hq : q ≤ k1 := r_k1 hX h7 (fun j j1 j2 => p13 j j1 (by omega))
  by_cases hgood : qK β n (q + 1) = 13 ∧ qK β n (q + 1 + 1) = 2
  rotate_left
  · obtain ⟨U, u1, u2, u3⟩ := sc_room (K := qK β n) c9 hK hls hI
    have hroom := df_room hX h7 hK1 u1 u3 (q + 1) p13 (q_end hX hq (by omega))
    obtain ⟨Sf, b1, b2⟩ := df_bad (d := d) (lb := lb) (r := r) (U := U) hX p25 p5' p15 (by omega) (show sA Sb 75 (X 1 + 1) = nI (X 3) by rw [p17, if_pos rfl]) (show sI Sb 6137 = nI (X 4) by rw [p16 _ (by decide) (by decide) (by omega)]; exact c5) p10' hgood hq (by omega) h12 (by omega) (by omega) hlb p3 p8 hkk1 hK hI p13 p9 u1 u2 u3 (by omega) (show sI Sb 6127 = nI tr' by rw [p16 _ (by decide) (by decide) (by omega)]; exact c31) (by omega) (show sI Sb 6126 = nI (X 2) by rw [p16 _ (by decide) (by decide) (by omega)]; exact c21) (by omega) h9 h10 (by omega)
    have hblk : ∀ R : RsT, R = ps (qK β n) (qL β n) (qI β n) E F → R 2 (dp + 1) ind sc.1.length none 0 (ca + 2) (c + 2) sc2 at' (q + 1) = .inl (qL β n (q + 1)) := fun R hR => by
      rw [hR]
      cases F with
      | zero => rfl
      | succ F =>
        show psB (qK β n) (qL β n) (qI β n) (ps (qK β n) (qL β n) (qI β n) E F) 1 (dp + 1) ind sc.1.length none 0 (ca + 2) (c + 2) sc2 at' (q + 1) = _
        unfold psB
        by_cases e : qK β n (q + 1) = 13
        · rw [if_neg (fun z => z e), if_pos (fun z => hgood ⟨e, z⟩)]
        · rw [if_pos e]
    obtain ⟨v1, v2, v3, v4⟩ := rm_run (β := β) (n := n) (k := k) (k1 := q + 1) (by omega) p13
    refine ⟨Sf, nI 0, ml (p4 _ _ b1), Or.inl ⟨flq (qL β n k), ?_, rfl, b2⟩⟩
    rw [hbad (qL β n (q + 1)) (by rw [psDef_s e3 e6 p1, hblk _ rfl]; rfl)]
    exact zB_in (q := qL β n (q + 1)) (by rw [v2])
  obtain ⟨hg1, hg2⟩ := hgood
  have hx4 : X 4 ≤ 6000 := by
    obtain ⟨U, u1, u2, u3⟩ := sc_room (K := qK β n) c9 hK hls hI
    omega
  obtain ⟨Se, Sk, tr2, y1, y2, y3, y4, y5, y6, y7, y8, y9, y10, y11, y12, y13, y14, y15, y16, y17, y18, y19, y20, y21, y22⟩ := df_go (d := d) (ca := ca + 2) (lb := lb) (r := r) hX h hK hlb p3 p5' p6 p7 p8 p9 p10' p11 p12 p13 p14 p15 p16 p17 p18 p19 p20 p21 p22 p23 p24 p25 hg1 hg2
  have etr : tr2 < 14 := by omega
  obtain ⟨w1, w2, w3, w4⟩ := rm_run (β := β) (n := n) (k := k + 1) (k1 := q + 1) (by omega) (fun j j1 j2 => p13 j (by omega) j2)
  obtain ⟨x1, x2, x3, x4⟩ := rm_gt (β := β) (n := n) (k := q + 1) (by omega)
  have hrm := rm_def hK e3
  have p5r : rem β n (q + 1 + 2) + 1 ≤ rm β n (q + 1 + 1) := rm_nl (β := β) (n := n) (j := q + 1 + 1) hg2
  have hlen2 : sc2.1.length = sc.1.length + 1 := by rw [y20, List.length_append]; rfl
  obtain ⟨Lo, hLo⟩ : ∃ Lo, Lo = lcO (qK β n) (qI β n) V (k + 1) := ⟨_, rfl⟩
  rw [← hLo] at y5 y6 y11 y12
  obtain ⟨S1b, v, hA, hO⟩ := hB opn dp ind sc.1.length none 0 (ca + 2) sc2 at' (dfX X Lo.1.length Lo.2.length) af (c + 2) w t b (q + 1) Sk (d + 12) y12 (by omega) y22 (by omega) (fun _ _ => ⟨by omega, by omega, by omega, by omega, h12, h13⟩) (by omega)
  obtain ⟨g7, g8, g9, g10, N, v7, v8, v9, v10, k8, k9, k10, fN, n78, n79, n710, n89, n810, n910, N4⟩ := zE_dg y2
  obtain ⟨m1, m2, m3, m4, m5, m6⟩ := zE_m y2
  have hfun : ∀ x : PT, ∃ y : PT, (fun b : PT => (.inr (b.1, dfO (sc.1.length - 1) ((5 + wC b.2.1 : Nat) : Int) ((3 + wR (qK β n) b.2.1 : Nat) : Int) b.2.1, b.2.2.1, at') : PSr)) x = .inr y ∧ y.1 = x.1 := fun x => ⟨_, rfl, rfl⟩
  rcases hO with ⟨l0, o1, o2, o3⟩ | ⟨x, o1, o2, -, -, o5, o6, o7⟩
  · rw [o2, y11] at hA
    have hR0 := df_r0 (d := d) (lb := lb) (r := r) (lh := c + 1) y2 (by omega) hlb p3 (by omega) (by omega) y3 (by omega) y4 y5 (Nat.le_add_right _ _) y6 y7 etr y10 (by omega) hA
    refine ⟨S1b, nI 0, ml (p4 _ _ (fun lv1 a0 a1 a2 a3 a4 a5 => y1 lv1 _ _ a0 a1 a2 a3 a4 a5 hR0)), Or.inl ⟨l0, ?_, rfl, o3⟩⟩
    have hb1 : zBd β n opn (dp + 1) (psDef (qK β n) (qL β n) E (ps (qK β n) (qL β n) (qI β n) E F) dp ind s ca c sc at' k) l0 := by
      rw [psDef_s e3 e6 p1]
      exact zBd_sb hfun o1
    unfold dfR
    split
    · exact hb1
    · unfold psDf
      exact zBd_sb (fun x => ⟨_, rfl, rfl⟩) hb1
  rw [o2, y11] at hA
  obtain ⟨gz, gI, g39, -, gdf, g60, gw, -, -, -, -, -, -, -, -, gsL⟩ := id o7
  have n6 := g60 rfl
  have bz : zbk (qK β n) c [((4, [], 0, 0) : Op)] = [] := rfl
  have gz1 := zO_X (X := X) (zO_l (l2 := X 2 - 1) gz n6) (dfX_le X Lo.1.length Lo.2.length)
  have gz2 : zO β n V (zPT (qK β n) (qI β n) V T) (agT T x.2.2.1.1) own0 m u S0 H B0 X (X 2 - 1) Sk (c + 2) w t (sc.1.length - 1 + 1) b x.1 x.2.1 (x.2.2.1.1.length - 1) S1b := by
    rw [show sc.1.length - 1 + 1 = sc2.1.length - 1 by omega]
    exact gz1
  have zA : zO β n V (zPT (qK β n) (qI β n) V T) (agT T x.2.2.1.1) own0 m u S0 H B0 X (X 2 - 1) S c w t (sc.1.length - 1) b x.1 ((4, [], 0, 0) :: x.2.1) (x.2.2.1.1.length - 1) S1b := zO_app (o1 := [(4, [], 0, 0)]) (Y := X) (y13 (zPT (qK β n) (qI β n) V T) (agT T x.2.2.1.1) (X 2 - 1)) gz2 (fun _ => Nat.le_refl _) id
  have hWb : c + wR (qK β n) x.2.1 + 12 ≤ H := by
    have : wR (qK β n) x.2.1 + 13 * rem β n x.1 ≤ 13 * rem β n (q + 1 + 2) := gw
    omega
  have kAb := gz.2.2.2.2.2.2.1
  have a75 : sA S1b 75 (X 1 + 1) = nI (X 3) := (kAb.2.1 (X 1 + 1) (Nat.le_refl _)).1.trans y17
  have a83 : sA S1b 83 (X 1 + 1) = nI (X 4) := (kAb.2.1 (X 1 + 1) (Nat.le_refl _)).2.2.trans y18
  have a22 : sI S1b 6122 = nI (X 1 + 1) := (gI _ (by decide)).trans y15
  obtain ⟨S2, S3, S4, S5, hA2, hA3, hA4, f22, f75, f83, hA5, z5, i5, i22, i23, i37, i26, i27, a5, d5⟩ := df_end (d := d) (r := sc.1.length - 1) (tr := tr2) (L := X 2) (x5 := ((5 + wC x.2.1 : Nat) : Int)) hX zA n6 (by omega) h12 a22 a75 a83
  have hSk : ∀ i, i ∈ [6117, 6134, 6140] → sI S5 i = sI S i := fun i hi => by
    simp only [List.mem_cons, List.not_mem_nil, or_false] at hi
    rw [i5 i (by omega) (by omega) (by omega) (by omega) (by omega) (by omega) (by omega) (by omega) (by omega) (by omega), gI i (by
      simp only [List.mem_cons, List.not_mem_nil, or_false]
      omega), y14 i (by omega) (by omega) (by omega) (by omega) (by omega) (by omega) (by omega) (by omega) (by omega) (by omega)]
  have hkI5 : ∀ i, i ∈ [6117, 6122, 6123, 6126, 6127, 6134, 6137, 6139, 6140] → sI S5 i = sI S i := fun i hi => by
    simp only [List.mem_cons, List.not_mem_nil, or_false] at hi
    rcases hi with rfl | rfl | rfl | rfl | rfl | rfl | rfl | rfl | rfl
    · exact hSk _ (by decide)
    · exact i22.trans c11.symm
    · exact i23.trans c4.symm
    · exact i26.trans c21.symm
    · exact i27.trans y9.symm
    · exact hSk _ (by decide)
    · exact i37.trans c5.symm
    · rw [i5 _ (by decide) (by decide) (by decide) (by decide) (by decide) (by decide) (by decide) (by decide) (by decide) (by decide), g39 rfl, y14 _ (by decide) (by decide) (by decide) (by decide) (by decide) (by decide) (by decide) (by decide) (by decide) (by decide)]
    · exact hSk _ (by decide)
  have hdf5 : zDf (qK β n) (qI β n) V m x.2.2.1.1 S5 := zDf_E gdf d5
  have kA0 := (y13 (zPT (qK β n) (qI β n) V T) (agT T x.2.2.1.1) (X 2 - 1)).2.2.2.2.2.2.1
  have kAc : kA X S S1b := kA_trans kA0 (kA_le kAb (dfX_le X Lo.1.length Lo.2.length))
  have h84k : ∀ i, i < X 6 → sA S1b 84 i = sA S 84 i := kAc.2.2.2.2.2.2
  have hL2 := scL_trans y19 gsL
  have hsx : s < x.2.2.1.1.length := by
    obtain ⟨⟨lx, hlx⟩, -, -⟩ := hL2
    rw [hlx, List.length_append]
    omega
  have eA2 : psDef (qK β n) (qL β n) E (ps (qK β n) (qL β n) (qI β n) E F) dp ind s ca c sc at' k = .inr (x.1, dfO (sc.1.length - 1) ((5 + wC x.2.1 : Nat) : Int) ((3 + wR (qK β n) x.2.1 : Nat) : Int) x.2.1, x.2.2.1, at') := by
    rw [psDef_s e3 e6 p1]
    show sb (ps (qK β n) (qL β n) (qI β n) E F (bmZ 0) (dp + 1) ind sc.1.length none 0 (ca + 2) (c + 2) sc2 at' (q + 1)) _ = _
    rw [o1]
    rfl
  have hB360 : ∀ lv1 : sm_L, sm_get lv1 0 = some (.ref 61) → sm_get lv1 1 = some (.int (nI ind)) → sm_get lv1 2 = some (.int (nI lb)) → sm_get lv1 3 = some (.int (nI r)) → sm_get lv1 4 = some (.int (nI (sc.1.length - 1))) → sm_get lv1 6 = some (.int (nI (c + 1))) → (lb = 0 → Bod (d + 12) 336 360 lv1 [] Se (some (.int 1)) S5) ∧ ∀ S6, lb ≠ 0 → Ans (d + 12) 317 [.ref 61, .int (nI 6), .int (nI r)] S5 none S6 → Bod (d + 12) 336 360 lv1 [] Se (some (.int 1)) S6 := fun lv1 a0 a1 a2 a3 a4 a6 => by
    rw [vR_eq v10] at hA
    refine ⟨fun hl => ?_, fun S6 hl hA6 => ?_⟩
    · exact zDr_1 (d := d + 4) a0 a1 a2 a3 a4 a6 (by omega) (by omega) (by omega) (by omega) (by omega) m1 m3 m2 v10 k10 (by omega) y5 y6 y3 (by omega) y4 (by omega) (Nat.le_add_right _ _) (by omega) y7 etr y10 (by omega) hA hA2 hA3 hA4 f22 (by omega) f75 (by omega) f83 (by omega) (by omega) hA5 hl
    · exact zDr_2 (d := d + 4) a0 a1 a2 a3 a4 a6 (by omega) (by omega) (by omega) (by omega) (by omega) m1 m3 m2 v10 k10 (by omega) y5 y6 y3 (by omega) y4 (by omega) (Nat.le_add_right _ _) (by omega) y7 etr y10 (by omega) hA hA2 hA3 hA4 f22 (by omega) f75 (by omega) f83 (by omega) (by omega) hA5 hl hA6
  by_cases hl : lb = 0
  · have z5' : zO β n V (zPT (qK β n) (qI β n) V T) (agT T x.2.2.1.1) own0 m u S0 H B0 X (X 2 - 1) S c w t (sc.1.length - 1) b x.1 (dfO (sc.1.length - 1) ((5 + wC x.2.1 : Nat) : Int) ((3 + wR (qK β n) x.2.1 : Nat) : Int) x.2.1 ++ []) (x.2.2.1.1.length - 1) S5 := by rw [List.append_nil]; exact z5
    obtain ⟨G1, G2⟩ := zG_df (g := []) (scF := x.2.2.1) hX h0 hz hK hI e3 p13 p14 hg2 hg1 y20 y19 o7 o6 z5' (Or.inl rfl) hkI5 hdf5 (a5 84 (by decide) (by decide) (by decide) (by decide)) h84k rfl (scL_refl E _)
    rw [List.append_nil] at G1 G2
    refine ⟨S5, nI 1, ml (p4 _ _ (fun lv1 a0 a1 a2 a3 a4 a5 => y1 lv1 _ _ a0 a1 a2 a3 a4 a5 (fun lv2 b0 b1 b2 b3 b4 b6 => (hB360 lv2 b0 b1 b2 b3 b4 b6).1 hl))), Or.inr ⟨_, ?_, rfl, G1, G2⟩⟩
    unfold dfR
    rw [if_pos hl]
    exact eA2
  · have kA5 : kA X S S5 := kA_trans kAc (kA_eq (fun a ha => by
      simp only [List.mem_cons, List.not_mem_nil, or_false] at ha
      exact a5 a (by omega) (by omega) (by omega) (by omega)))
    obtain ⟨k74, k82, k75⟩ := kA_74 kA5
    have hN := zSc_N (zSc_go (A' := agT T x.2.2.1.1) (ind' := ind) (k2 := k) c9 (agT_L hL2) hL2 k74 k82 k75 (fun _ _ q a b => q a b)) i22 (by omega) i23 i37
    have wD : wR (qK β n) ((4, [], ((5 + wC x.2.1 : Nat) : Int), ((3 + wR (qK β n) x.2.1 : Nat) : Int)) :: (x.2.1 ++ [(63, [], 0, 0), (8, [], 0, 0), (22, [sc.1.length - 1], 0, 0)])) = wR (qK β n) x.2.1 + 6 := (dfO_w (qK β n)).1
    obtain ⟨S6, hA6, z6, kx6⟩ := zO_nm (d := d + 7) (o := (19, [k + 1, s], 0, 0)) (x := nI 6) (r := r) hX z5 hN (by rw [wD]; omega) h12 (by omega) rfl (by show (19 : Nat) ≠ 16; decide) (by show (19 : Nat) ≠ 60; decide) (by show (19 : Nat) ≠ 23; decide) (by rw [wdS_19, p2])
    obtain ⟨G1, G2⟩ := zG_df (g := [(19, [k + 1, s], 0, 0)]) (scF := scB E s (k + 1) x.2.2.1) hX h0 hz hK hI e3 p13 p14 hg2 hg1 y20 y19 o7 o6 z6 (Or.inr rfl) (fun i hi => (kX_nx kx6 hi).trans (hkI5 i hi)) (zDf_X hdf5 kx6) ((kx6.2.1 84 (by decide) (by decide) (by decide) (by decide)).1.trans (a5 84 (by decide) (by decide) (by decide) (by decide))) h84k (scB_l E s (k + 1) x.2.2.1).1 (scL_B E s (k + 1) x.2.2.1 hsx)
    refine ⟨S6, nI 1, ml (p4 _ _ (fun lv1 a0 a1 a2 a3 a4 a5 => y1 lv1 _ _ a0 a1 a2 a3 a4 a5 (fun lv2 b0 b1 b2 b3 b4 b6 => (hB360 lv2 b0 b1 b2 b3 b4 b6).2 S6 hl hA6))), Or.inr ⟨_, ?_, rfl, G1, G2⟩⟩
    unfold dfR
    rw [if_neg hl]
    unfold psDf
    rw [eA2]
    rfl
end
