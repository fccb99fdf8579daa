/-! BOTH MACHINES: a new object is filled and given -/
section
variable {P : Nat → Prop} {T : cS} {gT : Nat} {Q : Nat → Prop} {β β' : Nat → Nat} {F : Nat → Nat → Nat → Prop} {loc par : Nat → Nat → Nat} {ty : Nat → Nat × Nat} {G : Nat → Nat → Nat → Nat × Nat × LL → Prop} {D D' K : List Nat} {z nn g0 g1 g3 g4 g5 gn d v o i k n t t0 r0 w : Nat} {tq : Nat → Nat × Nat} {C r : List Lv} {x : Lv} {S S' S1 X W Sc Sr : cS} {g : Nat → Nat} {l2 : LL} {hi lo kh kl a b : Int64} {kd : Int32}
theorem wI_id {i : Nat} {e : Int32} (h : sI S i = e) : wI i e S = S := by
  refine Prod.ext (funext (fun j => ?_)) rfl
  show (if j = i then e else sI S j) = sI S j
  split
  · rename_i c
    rw [c, h]
  · rfl
theorem HR_o (hX : HR Q β F D S Sr g0 g1 nn) (hl : lv S o) : ∃ t v2 v3 v4 v5 v6 v7 n m, β o < 1500 ∧ sQ Sr 86 (β o) = some t ∧ tOk Sr (β o) t ∧ 108 ≤ t ∧ (∃ N, (sS Sr)[t - 108]? = some (13, N)) ∧ tRef Sr (β o) t v2 v3 v4 v5 v6 v7 n m ∧ dsV v2 v3 v4 v5 v6 v7 ∧ tLn n m ∧ (∀ j, j < m → ∃ e, e < 2 ^ 20 ∧ sA Sr v3 j = nI e) ∧ sI Sr (100 * t + 0) = sA S 3 o ∧ sI Sr (100 * t + 1) = nI (h_n S o) ∧ h_n S o ≤ n ∧ (∀ i, i < h_n S o → vrel β (h_hi S o i) (h_lo S o i) (sA Sr v2 i) (sL Sr v4 i) (sL Sr v5 i)) ∧ (c_width (h_kd S o) = 4 → h_n S o ≤ m ∧ ∀ i, i < h_n S o → keyR β Sr g0 g1 nn (h_kd S o) (h_kh S o i) (h_kl S o i) (sA Sr v3 i) (sL Sr v6 i) (sL Sr v7 i)) ∧ sA Sr 87 (β o) = nI 1 := by
  have hob := hX.ob hl
  obtain ⟨t, t1, t2⟩ := hX.th hl
  obtain ⟨g1', _, N, g3'⟩ := tOk_t t2
  have t2' := t2
  obtain ⟨v2, v3, v4, v5, v6, v7, n, m, wr, wd, wl, wk⟩ := t2'
  obtain ⟨c2, c3, c4, c5, c6⟩ := obR_x hob t1 wr
  have h87 : sA Sr 87 (β o) = nI 1 := (hX.2.2.2.2.2.2.2.2.2.2 (β o) hob.1).resolve_left hob.2.1
  exact ⟨t, v2, v3, v4, v5, v6, v7, n, m, hob.1, t1, t2, g1', ⟨N, g3'⟩, wr, wd, wl, wk, c2, c3, c4, c5, c6, h87⟩
theorem kd_one {k : Nat} (h : h_kd S k = 1) (c : sA S 3 k = nI 3) : False := by
  unfold h_kd at h
  rw [c] at h
  exact absurd h (by decide)
/-- an item behind those of a list: both -/
theorem add_XR (hX : XR P T gT Q β F D z nn g0 g1 g3 g4 g5 gn tq (x :: r) S Sr) (hcal : cCal S (x :: r)) (hM : mtX k [] S W W) (hol : lv S k) (k1 : h_kd S k = 1) (hn : h_n S k < 304) (hst : ∀ i, sL W 47 i = sL S 47 i ∧ sL W 48 i = sL S 48 i) (hnX : h_n W k = h_n S k + 1) (hkX : h_kd W k = h_kd S k) (hev : ∀ i, i < h_n S k → h_hi W k i = h_hi S k i ∧ h_lo W k i = h_lo S k i) (hv1 : h_hi W k (h_n S k) = hi) (hv2 : h_lo W k (h_n S k) = lo) (hv : vrel β hi lo kd a b) : ∃ t W', sQ Sr 86 (β k) = some t ∧ 108 ≤ t ∧ (∃ N, (sS Sr)[t - 108]? = some (13, N)) ∧ Ans (d + 10) 375 [.ref t, .int kd, .long a, .long b] Sr none W' ∧ XR P T gT Q β F D z nn g0 g1 g3 g4 g5 gn tq (x :: r) W W' ∧ sQ W' = sQ Sr ∧ (sA W' 91 = sA Sr 91 ∧ sL W' 92 = sL Sr 92 ∧ sL W' 93 = sL Sr 93 ∧ sI W' 6151 = sI Sr 6151) := by
  obtain ⟨t, v2, v3, v4, v5, v6, v7, n, m, bt, t1, t2, t108, tS, wr, wd, wl, wj, f0, f1, fn, _, _, h87⟩ := HR_o hX.1 hol
  obtain ⟨W4, A4, u2, u4, u5, n', t4, d4, n4, i4, o4, x4, y4', z4, e3, e6, e7, eA4, eL4, eI4, ⟨l4, eS4⟩, ln4, F4⟩ := radd_T (d := d) (kd := kd) (xa := a) (xb := b) wr wd f1 fn hn wl
  have hok4 : tOk W4 (β k) t := ⟨u2, v3, u4, u5, v6, v7, n', m, t4, d4, ln4, fun j hj => by rw [e3]; exact wj j hj⟩
  have hg2 : 108 ≤ v2 := wr.2.2.2.2.2.2.2.2.2.2.2.2.2.2.2.2.2.1
  have hg4 : 108 ≤ v4 := wr.2.2.2.2.2.2.2.2.2.2.2.2.2.2.2.2.2.2.2.1
  have hg5 : 108 ≤ v5 := wr.2.2.2.2.2.2.2.2.2.2.2.2.2.2.2.2.2.2.2.2.1
  have w2 : c_width (h_kd S k) ≠ 4 := by rw [k1]; decide
  have hHR := addk_HR (kh := 0) (kl := 0) hX.1 hM hol t1 F4 hok4 t4 wr eI4 i4 (kd_one k1) (by rw [eA4 87 (by omega) (by omega)]; exact h87) n4 (fun c => absurd c w2) hnX hkX hev hv1 hv2 (fun c => absurd c w2) hv o4 ⟨x4, y4', z4⟩ (fun c => absurd c w2) (fun c => absurd c w2)
  have hXW := XR_mut (v := 0) hX hcal hM bt F4 t1 hHR (by omega) (fun i _ => hst i)
  rw [Nat.sub_zero, Nat.sub_zero, List.map_nil, List.append_nil, wI_id (by rw [eI4 _ (by omega)]; exact hX.2.2.2.2.2.1.1)] at hXW
  exact ⟨t, W4, t1, t108, tS, A4, hXW, F4.2.1, eA4 91 (by omega) (by omega), eL4 92 (by omega) (by omega) (by omega), eL4 93 (by omega) (by omega) (by omega), eI4 _ (by omega)⟩
theorem XR_lab {p q u w : Nat} (hX : XR P T gT Q β F D z nn g0 g1 g3 g4 g5 gn tq (vAt x p q (w, u, vL x) :: r) Sc Sr) (hlab : labS v x l2) (hb : lbo (vS x)) : XR P T gT Q β F D z nn g0 g1 g3 g4 g5 gn tq (vAt x p q (w, u, l2) :: r) Sc Sr := by
  obtain ⟨_, _, _, _, _, f6⟩ := labS_f hlab hb
  obtain ⟨a1, a2, a3, a4, a5, a6, a7, a8, a9, a10, a11⟩ := hX
  refine ⟨a1, a2, a3, a4, a5, a6, ?_, a8, a9, a10, a11⟩
  obtain ⟨c1, c2⟩ := a7
  refine ⟨fun e' y l'' hl'' => ?_, c2⟩
  obtain ⟨e2, h2⟩ := f6 e' y l'' hl''
  exact c1 e2 y l'' h2
/-- the new object is given: both -/
theorem give_k (h : CIk k F loc par ty G tq (x :: r) X) (hk : lv X k) (hlab : labS v x l2) (hl : lob l2 + v ≤ vH x) (h6 : vH x - v + 1 ≤ 600) : ∃ S', Ans (d + 9) 148 [.ref 46, .int (nI v), .long 4611686018427387904, .long (lN k)] X (some (.int (nI 0))) S' ∧ (∀ p q, CI F loc par ty G tq (vAt x p q (vH x - v + 1, vU x, l2) :: r) S') ∧ CFm X S' ∧ ∀ (P : Nat → Prop) (T : cS) (gT : Nat) (Q : Nat → Prop) (β : Nat → Nat) (D : List Nat) (z nn g0 g1 g3 g4 g5 gn : Nat) (W : cS), XR P T gT Q β F D z nn g0 g1 g3 g4 g5 gn tq (x :: r) X W → ∃ D', XR P T gT Q β F D' z nn g0 g1 g3 g4 g5 gn tq (vAt x (vP x) (vQ x) (vH x - v + 1, vU x, l2) :: r) S' (pshW (topC (x :: r) + offC (x :: r) - v) (nI 3) (lN (β k)) 0 W) := by
  obtain ⟨l1, l3, _, l4, l5⟩ := CIk_len h
  have ho := ob_obj hk.2.1
  obtain ⟨S', K, b1, b2, b3, b4, b5, b6, b7, b8⟩ := mgive_T (d := d) (v := v) (o := k) (hi := 4611686018427387904) (lo := lN k) h.1 (show v ≤ topC (x :: r) by omega) (by omega) ho.1 hk.2.1 (Or.inr hk) (Or.inr rfl) (fun k => by have := gC_le (C := x :: r) k; rw [List.length_cons] at this; omega)
  refine ⟨S', b1, fun p q => CIk_give h b3 (by omega) b2 b4 b5 hlab hl h6 ⟨by decide, by decide⟩ p q, CFm_KX b3, fun P T gT Q β D z nn g0 g1 g3 g4 g5 gn W hX => ?_⟩
  have et : topC (x :: r) - v + offC (x :: r) = topC (x :: r) + offC (x :: r) - v := by omega
  obtain ⟨p1, p2, p3, p4, p5⟩ := pshW_s (tp := topC (x :: r) + offC (x :: r) - v) (kd := nI 3) (xa := lN (β k)) (xb := 0) (S := W)
  have hg := XR_give (v := v) (hi := 4611686018427387904) (lo := lN k) (tp := topC (x :: r) + offC (x :: r) - v) hX (mHS_cl h.1) (mHS_ok h.1) h.2.2.2.2.1 b3 (by omega) b4 b5 b6 et.symm p1 p2 (by rw [p3, p4]; exact Or.inr (Or.inr (Or.inr (Or.inr (Or.inl ⟨k, hk.1, hk.2.1, rfl, rfl, rfl, rfl⟩)))))
  exact ⟨_, XR_lab hg hlab h.2.2.1.2.1⟩
end
