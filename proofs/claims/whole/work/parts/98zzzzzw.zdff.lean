/-! STATEMENTS OF THE REFERENCE: def: the context in which its block is read -/
def dfX (X : Nat → Nat) (L O : Nat) : Nat → Nat := fun i => if i = 1 then X 1 + 1 else if i = 2 then X 2 + 1 else if i = 3 then X 3 + L else if i = 4 then X 4 + O else X i
theorem dfX_le (X : Nat → Nat) (L O : Nat) : ∀ i, X i ≤ dfX X L O i := fun i => by
  unfold dfX
  split
  · rename_i h; rw [h]; omega
  · split
    · rename_i h; rw [h]; omega
    · split
      · rename_i h; rw [h]; omega
      · split
        · rename_i h; rw [h]; omega
        · exact Nat.le_refl _
section
variable {β : Nat → Nat} {n : Nat} {E : Nat → Nat → Bool} {V : Nat → Int32} {T : Nat → Nat × Nat} {own0 : Nat → Nat × Nat} {m u k1 : Nat} {S0 Sb S S1 S2 : cS} {H B0 W d c w t f b a F s : Nat} {l : List Int32} {X : Nat → Nat}
set_option maxHeartbeats 8000000 in
/-- a function's head that goes on: the state in which its block is read -/
theorem df_go {z dp ind tr af k q ca lb r : Nat} {opn : Nat → Nat} {lp : LpT} {sc sc2 : SCs} {at' : List Nat} {l2 : List Int32} {Sp : cS} (hX : zX β n V own0 m k1 S0) (h : zIs β n E V T own0 m u k1 S0 H B0 W z opn dp ind s lp tr sc at' X af c w t b k S) (hK : qK β n k = 46) (hlb : lb < 2) (hr : r < 90000) (hP : zPs own0 m u S0 H B0 c w t (sc.1.length - 1 + 1) b (X 1 + 1) (X 3) l2 q Sb Sp) (hl2 : l2 = prmL (qK β n) V 9 (k + 3)) (hk2 : q + 1 = hdE (qK β n) V (k + 1)) (hl8 : l2.length ≤ 8) (hkk : k + 4 + 2 * l2.length ≤ q + 1 + 1) (h7 : qK β n q = 7) (hR : scR1 E (qK β n) V sc.1.length l2 sc2) (hO : scO E sc.1.length (sc.1 ++ [(s, ca, c + 2, k + 1)], sc.2) sc2) (htk : ∀ j, k ≤ j → j < q + 1 → 3 ≤ qK β n j) (hkq : k + 4 ≤ q + 1) (hbF : sI Sb 6122 = nI (X 1 + 1)) (hbI : ∀ i, i ≠ 6115 → i ≠ 6122 → i ≠ 100 * m + 11 → sI Sb i = sI S i) (b75 : ∀ i, sA Sb 75 i = if i = X 1 + 1 then nI (X 3) else sA S 75 i) (b83 : ∀ i, sA Sb 83 i = if i = X 1 + 1 then nI (X 4) else sA S 83 i) (b76 : ∀ i, sA Sb 76 i = if i = X 1 + 1 then nI 0 else sA S 76 i) (bA : ∀ x, 67 ≤ x → x < 108 → x ≠ 79 → x ≠ 80 → x ≠ 75 → x ≠ 83 → x ≠ 76 → sA Sb x = sA S x) (hkW : kW m c w t (sc.1.length - 1) b S Sb) (hnm : dNm Sb m (sc.1.length - 1) = V (k + 1)) (hkA : bkA Sb = bkA S) (hkL : bkL Sb = bkL S) (hEb : zE own0 m u S0 H B0 c w t (sc.1.length - 1 + 1) b Sb) (h13 : qK β n (q + 1) = 13) (hnl : qK β n (q + 1 + 1) = 2) : ∃ Se Sk tr', (∀ (lv : sm_L) (v : Option Value) (Sf : cS), sm_get lv 0 = some (.ref 61) → sm_get lv 1 = some (.int (nI ind)) → sm_get lv 2 = some (.int (nI lb)) → sm_get lv 3 = some (.int (nI r)) → sm_get lv 4 = some (.int (nI (sc.1.length - 1))) → sm_get lv 5 = some (.int (nI 0)) → (∀ lv1 : sm_L, sm_get lv1 0 = some (.ref 61) → sm_get lv1 1 = some (.int (nI ind)) → sm_get lv1 2 = some (.int (nI lb)) → sm_get lv1 3 = some (.int (nI r)) → sm_get lv1 4 = some (.int (nI (sc.1.length - 1))) → sm_get lv1 6 = some (.int (nI (c + 1))) → Bod (d + 12) 336 360 lv1 [] Se v Sf) → Bod (d + 12) 336 131 lv [] Sp v Sf) ∧ zE own0 m u S0 H B0 (c + 2) w t (sc.1.length - 1 + 1) b Se ∧ sI Se 6122 = nI (X 1 + 1) ∧ sA Se 75 (X 1 + 1) = nI (X 3) ∧ sI Se 6123 = nI (X 3 + (lcO (qK β n) (qI β n) V (k + 1)).1.length) ∧ X 3 + (lcO (qK β n) (qI β n) V (k + 1)).1.length < 6000 ∧ sI Se 6127 = nI tr' ∧ tr' ≤ dp + 1 ∧ sI S 6127 = nI tr' ∧ sI Se 6126 = nI (X 2) ∧ Sk = wI 6126 (nI (X 2 + 1)) (wA 77 (X 2) (Int32.ofInt (-1)) (wI 6127 (nI 0) (wA (vR Se (100 * m + 10)) (sc.1.length - 1) (nI (X 3 + (lcO (qK β n) (qI β n) V (k + 1)).1.length - X 3)) Se))) ∧ zI0 β n E V T own0 m u k1 S0 H B0 W 0 opn dp ind sc.1.length none 0 sc2 at' (dfX X (lcO (qK β n) (qI β n) V (k + 1)).1.length (lcO (qK β n) (qI β n) V (k + 1)).2.length) af (c + 2) w t b (q + 1) Sk ∧ (∀ (P : Nat → Int32 → Int32 × Int32) (A : Prop) (l : Nat), zO β n V P A own0 m u S0 H B0 X l S c w t (sc.1.length - 1) b (q + 1) [(4, [], 0, 0)] (sc.1.length - 1 + 1) Sk) ∧ (∀ i, i < 10800 → i ≠ 6115 → i ≠ 6116 → i ≠ 6131 → i ≠ 6132 → i ≠ 6123 → i ≠ 6137 → i ≠ 6122 → i ≠ 6126 → i ≠ 6127 → sI Sk i = sI S i) ∧ sI Sk 6122 = nI (X 1 + 1) ∧ sI Sk 6126 = nI (X 2 + 1) ∧ sA Sk 75 (X 1 + 1) = nI (X 3) ∧ sA Sk 83 (X 1 + 1) = nI (X 4) ∧ scL E sc sc2 ∧ sc2.1 = sc.1 ++ [(s, ca, c + 2, k + 1)] ∧ q + 1 + 1 < k1 ∧ qI β n (q + 1) = ind := by
  obtain ⟨h0, ⟨r1, r2, r3, r4⟩, hls, hK1, hI, hx1, hx2, hx3⟩ := h
  obtain ⟨h1, h2, h3, h4, h5, h6, h7', h8, h9, h10, h11, h12, h13'⟩ := id h0
  obtain ⟨⟨c01, c02, c03, c04, c05⟩, ⟨c11, c12⟩, ⟨c21, c22, c23⟩, ⟨tr', c31, c32, c33⟩, c4, c5, ⟨c61, c62⟩, ⟨c71, c72, c73, c74⟩, ⟨c81, c82⟩, c9, c10⟩ := id h4
  have hk1 := hX.2.1
  have hm1 := hX.2.2.2.2.1
  obtain ⟨U, u1, u2, u3⟩ := sc_room (K := qK β n) c9 hK hls hI
  have hwf : wfS sc := by
    obtain ⟨ls, os, a, b, pm, ch, q, U, c0, -⟩ := c9
    exact c0.2
  have hkk1 : k < k1 := q_end hX h7' hK1
  have hq : q ≤ k1 := r_k1 hX h7' (fun j j1 j2 => htk j j1 (by omega))
  have hq1 : q + 1 ≤ k1 := q_end hX hq (by omega)
  have hq2 : q + 1 + 1 ≤ k1 := q_end hX hq1 (by omega)
  have hq3 : q + 1 + 1 < k1 := q_end (k := q + 1 + 1) hX hq2 (by omega)
  obtain ⟨y1, y2, y3, y4⟩ := rm_run (β := β) (n := n) (k := k) (k1 := q + 1) (by omega) htk
  obtain ⟨z1, z2, z3, z4⟩ := rm_run (β := β) (n := n) (k := k) (k1 := k + 1) (by omega) (fun j j1 j2 => htk j j1 (by omega))
  have hIk2 : qI β n (q + 1) = ind := by omega
  have hIk1 : qI β n (k + 1) = ind := by omega
  have hiM := k_i (k := k) hX
  obtain ⟨q5, q6⟩ := rem_ge hK1
  obtain ⟨C, C1, C2, C3, C4⟩ := df_cnt (V := V) (l2 := l2) (k2 := q + 1) (ind := ind) (zX_Tk hX) hkk1 hK hI (by omega) hnl htk hkk hq3 u3
  have p3 := (scn2_le (qK β n) (qI β n) V ind l2.length 6001 (q + 3) none (scn1 (qK β n) (qI β n) V ind 6001 (q + 3) none l2, [])).1
  have C1' : (scn1 (qK β n) (qI β n) V ind 6001 (q + 3) none l2).length ≤ C := C1
  have C2' : (scn2 (qK β n) (qI β n) V ind l2.length 6001 (q + 3) none (scn1 (qK β n) (qI β n) V ind 6001 (q + 3) none l2, [])).2.length ≤ C := C2
  have p3' : (scn2 (qK β n) (qI β n) V ind l2.length 6001 (q + 3) none (scn1 (qK β n) (qI β n) V ind 6001 (q + 3) none l2, [])).1.length ≤ (scn1 (qK β n) (qI β n) V ind 6001 (q + 3) none l2).length := p3
  have eLC : lcO (qK β n) (qI β n) V (k + 1) = scn2 (qK β n) (qI β n) V ind l2.length 6001 (q + 3) none (scn1 (qK β n) (qI β n) V ind 6001 (q + 3) none l2, []) := by
    unfold lcO
    rw [hIk1, ← hk2, show k + 1 + 2 = k + 3 from rfl, ← hl2]
  obtain ⟨Se, hB, g1, g2, g3, g4, g5, g6, gL, gO, g7, g8, g9, g10, gW, gn, gt, gp, ga, gl, gs⟩ := df_2 (d := d) (P := fun _ _ => (0, 0)) (ind := ind) (lb := lb) (r := r) hX hEb hP hbF (by omega) (show sA Sb 75 (X 1 + 1) = nI (X 3) by rw [b75, if_pos rfl]) (show sI Sb 6137 = nI (X 4) by rw [hbI _ (by decide) (by decide) (by omega)]; exact c5) h7 ⟨by omega, by omega⟩ hnl hq (by omega) h12 (by omega) (by omega) hlb hr hl8 (by omega) (by omega)
  rw [← eLC] at g4 g5 gL gO
  have hL6 : X 3 + (lcO (qK β n) (qI β n) V (k + 1)).1.length < 6000 := by rw [eLC]; omega
  obtain ⟨Lo, hLo⟩ : ∃ Lo, Lo = lcO (qK β n) (qI β n) V (k + 1) := ⟨_, rfl⟩
  rw [← hLo] at g4 g5 gL gO hL6 ⊢
  have iE : ∀ i, i < 10800 → i ≠ 6115 → i ≠ 6116 → i ≠ 6131 → i ≠ 6132 → i ≠ 6123 → i ≠ 6137 → i ≠ 6122 → sI Se i = sI S i := fun i i0 i1 i2 i3 i4 i5 i6 i7 => (g6 i i0 i1 i2 i3 i4 i5 i6).trans (hbI i i1 i7 (by omega))
  obtain ⟨x1, x2, x3, x4, x5, x6, x7, x8, x9⟩ := zE_wD (j := 10) (i := sc.1.length - 1) (x := nI (X 3 + Lo.1.length - X 3)) g1 (by decide)
  obtain ⟨Sg, hSg⟩ : ∃ Sg, Sg = wA (vR Se (100 * m + 10)) (sc.1.length - 1) (nI (X 3 + Lo.1.length - X 3)) Se := ⟨_, rfl⟩
  rw [← hSg] at x1 x2 x3 x4 x5 x6 x7 x8 x9
  obtain ⟨Sk, hSk⟩ : ∃ Sk, Sk = wI 6126 (nI (X 2 + 1)) (wA 77 (X 2) (Int32.ofInt (-1)) (wI 6127 (nI 0) Sg)) := ⟨_, rfl⟩
  have kk : kF Sg Sk := by rw [hSk]; exact kF_trans (kF_trans kF_wI (kF_wA (by decide))) kF_wI
  obtain ⟨kk1, ⟨kk2, kk3, kk4, kk5⟩, kk6, kk7⟩ := kF_all x1 kk
  have hEk : zE own0 m u S0 H B0 (c + 2) w t (sc.1.length - 1 + 1) b Sk := by rw [hSk]; exact zE_wI (zE_wA (zE_wI x1 (by decide)) (by decide)) (by decide)
  have iG : ∀ i, sI Sg i = sI Se i := fun i => by rw [hSg]; rfl
  have iK : ∀ i, i ≠ 6126 → i ≠ 6127 → sI Sk i = sI Se i := fun i i1 i2 => by
    rw [hSk, rIn _ _ i1]
    show sI (wI 6127 (nI 0) Sg) i = _
    rw [rIn _ _ i2, iG]
  have i26 : sI Sk 6126 = nI (X 2 + 1) := by rw [hSk]; exact rIe _ _ _
  have i27 : sI Sk 6127 = nI 0 := by
    rw [hSk, rIn _ _ (by decide)]
    show sI (wI 6127 (nI 0) Sg) 6127 = _
    exact rIe _ _ _
  have aK : ∀ x, x ≠ 77 → 67 ≤ x → x < 108 → x ≠ 79 → x ≠ 80 → sA Sk x = sA Se x := fun x a0 a1 a2 a3 a4 => by
    rw [hSk]
    show sA (wA 77 (X 2) (Int32.ofInt (-1)) (wI 6127 (nI 0) Sg)) x = _
    rw [rAn _ _ _ a0]
    exact x9 x a1 a2 a3 a4
  have a77 : ∀ i, sA Sk 77 i = if i = X 2 then Int32.ofInt (-1) else sA S 77 i := fun i => by
    have e0 : sA Sg 77 = sA S 77 := by rw [x9 77 (by decide) (by decide) (by decide) (by decide), g10 77 (by decide) (by decide) (by decide) (by decide) (by decide) (by decide) (by decide), bA 77 (by decide) (by decide) (by decide) (by decide) (by decide) (by decide) (by decide)]
    rw [hSk]
    show (if 77 = 77 then upd (sA Sg 77) (X 2) (Int32.ofInt (-1)) else sA Sg 77) i = _
    rw [if_pos rfl, upd_at, e0]
  have aS : ∀ x, 67 ≤ x → x < 108 → x ≠ 79 → x ≠ 80 → x ≠ 74 → x ≠ 82 → x ≠ 76 → x ≠ 75 → x ≠ 83 → x ≠ 77 → sA Sk x = sA S x := fun x a1 a2 a3 a4 a5 a6 a7 a8 a9 a10 => by
    rw [aK x a10 a1 a2 a3 a4, g10 x a1 a2 a3 a4 a5 a6 a7, bA x a1 a2 a3 a4 a8 a9 a7]
  have k75 : ∀ i, sA Sk 75 i = if i = X 1 + 1 then nI (X 3) else sA S 75 i := fun i => by rw [aK 75 (by decide) (by decide) (by decide) (by decide) (by decide), g10 75 (by decide) (by decide) (by decide) (by decide) (by decide) (by decide) (by decide)]; exact b75 i
  have k83 : ∀ i, sA Sk 83 i = if i = X 1 + 1 then nI (X 4) else sA S 83 i := fun i => by rw [aK 83 (by decide) (by decide) (by decide) (by decide) (by decide), g10 83 (by decide) (by decide) (by decide) (by decide) (by decide) (by decide) (by decide)]; exact b83 i
  have k76 : ∀ i, sA Sk 76 i = if i = X 1 + 1 then nI l2.length else sA S 76 i := fun i => by
    rw [aK 76 (by decide) (by decide) (by decide) (by decide) (by decide), g9]
    by_cases e : i = X 1 + 1
    · rw [if_pos e, if_pos e]
    · rw [if_neg e, if_neg e, b76, if_neg e]
  have k74 : ∀ i, i < X 3 → sA Sk 74 i = sA S 74 i := fun i hi => by rw [aK 74 (by decide) (by decide) (by decide) (by decide) (by decide), g7 i hi, bA 74 (by decide) (by decide) (by decide) (by decide) (by decide) (by decide) (by decide)]
  have k82 : ∀ i, i < X 4 → sA Sk 82 i = sA S 82 i := fun i hi => by rw [aK 82 (by decide) (by decide) (by decide) (by decide) (by decide), g8 i hi, bA 82 (by decide) (by decide) (by decide) (by decide) (by decide) (by decide) (by decide)]
  have iS : ∀ i, i < 10800 → i ≠ 6115 → i ≠ 6116 → i ≠ 6131 → i ≠ 6132 → i ≠ 6123 → i ≠ 6137 → i ≠ 6122 → i ≠ 6126 → i ≠ 6127 → sI Sk i = sI S i := fun i i0 i1 i2 i3 i4 i5 i6 i7 i8 i9 => (iK i i8 i9).trans (iE i i0 i1 i2 i3 i4 i5 i6 i7)
  have e615 : sI Sk 6115 = nI (q + 1) := (iK _ (by decide) (by decide)).trans g2
  have e616 : sI Sk 6116 = nI 0 := (iK _ (by decide) (by decide)).trans g3
  have hFe : sI Se 6122 = nI (X 1 + 1) := (g6 _ (by decide) (by decide) (by decide) (by decide) (by decide) (by decide) (by decide)).trans hbF
  have hlen2 : sc2.1.length = sc.1.length + 1 := by
    rw [hO.1]
    show (sc.1 ++ [_]).length = _
    rw [List.length_append]
    rfl
  have hscL : scL E sc sc2 := ⟨⟨[(s, ca, c + 2, k + 1)], hO.1⟩, fun s' j hs' => hO.2.1 s' j (by omega), fun hw => hO.2.2 (by
    show sc.1.length < (sc.1 ++ [_]).length
    rw [List.length_append]
    exact Nat.lt_succ_self _) (fun e he => by
    show e.1 < (sc.1 ++ [_]).length
    have := hw e he
    rw [List.length_append]
    omega)⟩
  have hWall : kW m c w t (sc.1.length - 1) b S Sk := by
    have w3 : kW m c w t (sc.1.length - 1) b Se Sg := ⟨x2 c w t, fun i hi => ⟨by rw [x3], by rw [x4, if_neg (by omega)], by rw [x5, if_neg (by omega)], by rw [x6, if_neg (by omega)]⟩, fun i _ => ⟨by rw [x7], by rw [x8]⟩⟩
    exact kW_trans (kW_trans hkW gW (Nat.le_refl _) (Nat.le_refl _) (Nat.le_refl _) (Nat.le_refl _) (Nat.le_refl _)) (kW_trans w3 (kF_kW x1 kk) (Nat.le_refl _) (Nat.le_refl _) (Nat.le_refl _) (Nat.le_refl _) (Nat.le_refl _)) (Nat.le_refl _) (Nat.le_refl _) (Nat.le_refl _) (Nat.le_refl _) (Nat.le_refl _)
  have hqk := qP_le (β := β) (n := n) (show k ≤ q + 1 by omega)
  have X0 : dfX X Lo.1.length Lo.2.length 0 = X 0 := rfl
  have X1' : dfX X Lo.1.length Lo.2.length 1 = X 1 + 1 := rfl
  have X2' : dfX X Lo.1.length Lo.2.length 2 = X 2 + 1 := rfl
  have X3' : dfX X Lo.1.length Lo.2.length 3 = X 3 + Lo.1.length := rfl
  have X4' : dfX X Lo.1.length Lo.2.length 4 = X 4 + Lo.2.length := rfl
  have X5' : dfX X Lo.1.length Lo.2.length 5 = X 5 := rfl
  have X6' : dfX X Lo.1.length Lo.2.length 6 = X 6 := rfl
  refine ⟨Se, Sk, tr', hB, g1, hFe, ?_, g4, hL6, ?_, c32, c31, ?_, by rw [hSk, hSg], ⟨by rw [hlen2, show sc.1.length + 1 - 1 = sc.1.length - 1 + 1 by omega]; exact hEk, e615, e616, ⟨⟨X0.trans c01, (iS _ (by decide) (by decide) (by decide) (by decide) (by decide) (by decide) (by decide) (by decide) (by decide) (by decide)).trans c02, c03, c04, fun i hi => ?_⟩, ⟨(iK _ (by decide) (by decide)).trans hFe, by rw [X1']; omega⟩, ⟨i26, by rw [X2']; omega, fun _ => Or.inr ⟨by rw [X2']; omega, ?_⟩⟩, ⟨0, i27, Nat.zero_le _, fun _ => rfl⟩, (iK _ (by decide) (by decide)).trans g4, (iK _ (by decide) (by decide)).trans g5, ⟨(iS _ (by decide) (by decide) (by decide) (by decide) (by decide) (by decide) (by decide) (by decide) (by decide) (by decide)).trans c61, by rw [X5']; omega⟩, ⟨(iS _ (by decide) (by decide) (by decide) (by decide) (by decide) (by decide) (by decide) (by decide) (by decide) (by decide)).trans c71, by rw [X6']; omega, (iS _ (by decide) (by decide) (by decide) (by decide) (by decide) (by decide) (by decide) (by decide) (by decide) (by decide)).trans c73, by rw [X6']; exact c74⟩, ⟨fun i hi => ?_, by omega⟩, ?_, ⟨fun e => by omega, fun e => by rw [X1'] at e; omega⟩⟩, fun i e he => ?_, by omega, hq1, (fun hz => by cases hz), h9, h10, by omega, h12, h13'⟩, fun P A l => ⟨hEk, e615, e616, fun _ => ?_, w23_1 (by show (4 : Nat) ≠ 23; decide), hWall, ⟨fun i _ => ?_, fun i hi => ⟨?_, ?_, ?_⟩, fun i hi => ⟨?_, ?_⟩, fun i hi => k74 i hi, fun i hi => k82 i hi, fun i _ => ?_, fun i _ => ?_⟩, Nat.le_succ _, fun i p hp => by cases hp⟩, iS, (iK _ (by decide) (by decide)).trans hFe, i26, by rw [k75, if_pos rfl], by rw [k83, if_pos rfl], hscL, hO.1, hq3, hIk2⟩
  · rw [g10 75 (by decide) (by decide) (by decide) (by decide) (by decide) (by decide) (by decide), b75, if_pos rfl]
  · exact (iE _ (by decide) (by decide) (by decide) (by decide) (by decide) (by decide) (by decide) (by decide)).trans c31
  · exact (iE _ (by decide) (by decide) (by decide) (by decide) (by decide) (by decide) (by decide) (by decide)).trans c21
  · obtain ⟨o1, o2⟩ := c05 i hi
    exact ⟨by rw [aS 73 (by decide) (by decide) (by decide) (by decide) (by decide) (by decide) (by decide) (by decide) (by decide) (by decide)]; exact o1, o2⟩
  · rw [X2', a77, if_pos (by omega)]
  · obtain ⟨x, y, o1, o2, o3, o4⟩ := c81 i hi
    exact ⟨x, y, by rw [X2']; omega, o2, by rw [kk7, x8, gl, hkL]; exact o3, by rw [kk6, x7, ga, hkA]; exact o4⟩
  · show zSc (qK β n) (qI β n) E V T (agT T sc2.1) sc2 sc.1.length (X 1 + 1) (X 3 + Lo.1.length) (X 4 + Lo.2.length) ind (q + 1) Sk
    rw [hLo]
    rw [hLo] at gL gO
    exact zSc_df (A := agT T sc.1) (ca := ca) (ra := c + 2) hX c9 h6 hkk1 hK hls hI h13 hnl h7 hIk2 hIk1 htk hkk hq3 hl2 hk2 (agT_L hscL) (fun hT => hT sc.1.length (s, ca, c + 2, k + 1) (by
      rw [hO.1]
      show (sc.1 ++ [_])[sc.1.length]? = _
      rw [List.getElem?_append_right (Nat.le_refl _), Nat.sub_self]
      rfl)) hR hO k75 k83 k76 k74 k82 (fun i y hy => by rw [aK 74 (by decide) (by decide) (by decide) (by decide) (by decide)]; exact gL i y hy) (fun i y hy => by rw [aK 82 (by decide) (by decide) (by decide) (by decide) (by decide)]; exact gO i y hy)
  · rw [hO.1] at he
    have he' : (sc.1 ++ [(s, ca, c + 2, k + 1)])[i + 1]? = some e := he
    rw [List.getElem?_append] at he'
    by_cases hi : i + 1 < sc.1.length
    · rw [if_pos hi] at he'
      obtain ⟨o1, o2, o3, o4⟩ := h5 i e he'
      obtain ⟨w1, w2, w3, w4⟩ := hWall.2.1 i (by omega)
      exact ⟨w1.trans o1, w2.trans o2, w3.trans o3, w4.trans o4⟩
    · rw [if_neg hi] at he'
      have hi2 : i + 1 - sc.1.length = 0 := by
        rcases Nat.eq_zero_or_pos (i + 1 - sc.1.length) with z | z
        · exact z
        · rw [List.getElem?_eq_none (by show 1 ≤ _; omega)] at he'
          cases he'
      rw [hi2] at he'
      injection he' with he'
      have hif : i = sc.1.length - 1 := by omega
      subst hif
      rw [← he']
      refine ⟨?_, ?_, ?_, ?_⟩
      · show dNm Sk m (sc.1.length - 1) = V (k + 1)
        rw [kk2, x3, gn, hnm]
      · show dAt Sk m (sc.1.length - 1) = nI (c + 2)
        rw [kk3, x4, if_neg (fun z => absurd z.1 (by decide)), gt]
      · show dPa Sk m (sc.1.length - 1) = nI (prmL (qK β n) V 9 (k + 1 + 2)).length
        rw [kk4, x5, if_neg (fun z => absurd z.1 (by decide)), gp, hl2]
      · show dLo Sk m (sc.1.length - 1) = nI (lcO (qK β n) (qI β n) V (k + 1)).1.length
        rw [kk5, x6, if_pos ⟨rfl, rfl⟩, hLo]
        exact congrArg nI (by omega)
  · refine lsS_mv (S := Se) (S1 := Sk) (V := V) (P := P) (fun i hi => ?_) (fun i hi => ?_) (Nat.le_refl _) (Nat.le_refl _) [(4, [], 0, 0)] c c (w23_1 (by show (4 : Nat) ≠ 23; decide)) (fun i _ => ?_) gs
    · exact ((kk1 0 w t).2.1 i hi).trans ((x2 0 w t).2.1 i hi)
    · obtain ⟨o1, o2⟩ := (kk1 0 w t).2.2 i hi
      obtain ⟨o3, o4⟩ := (x2 0 w t).2.2 i hi
      exact ⟨o1.trans o3, o2.trans o4⟩
    · exact ((kk1 (c + i + 1) w t).1 (c + i) (by omega)).trans ((x2 (c + i + 1) w t).1 (c + i) (by omega))
  · rw [aS 73 (by decide) (by decide) (by decide) (by decide) (by decide) (by decide) (by decide) (by decide) (by decide) (by decide)]
  · rw [k75, if_neg (by omega)]
  · rw [k76, if_neg (by omega)]
  · rw [k83, if_neg (by omega)]
  · rw [a77, if_neg (by omega)]
  · rw [aS 78 (by decide) (by decide) (by decide) (by decide) (by decide) (by decide) (by decide) (by decide) (by decide) (by decide)]
  · rw [aS 81 (by decide) (by decide) (by decide) (by decide) (by decide) (by decide) (by decide) (by decide) (by decide) (by decide)]
  · rw [aS 84 (by decide) (by decide) (by decide) (by decide) (by decide) (by decide) (by decide) (by decide) (by decide) (by decide)]
end
