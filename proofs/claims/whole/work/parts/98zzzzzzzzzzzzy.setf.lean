/-! NAMES ON BOTH SIDES: a name of a frame is bound or unbound -/
section
variable {P : Nat → Prop} {T : cS} {gT : Nat} {Q : Nat → Prop} {β β' : Nat → Nat} {F : Nat → Nat → Nat → Prop} {loc par : Nat → Nat → Nat} {ty : Nat → Nat × Nat} {G : Nat → Nat → Nat → Nat × Nat × LL → Prop} {D D' K : List Nat} {z nn g0 g1 g3 g4 g5 gn d n m p q q' pT k j f c u s ni fr sl dp op nm rn o e : Nat} {tq : Nat → Nat × Nat} {C r : List Lv} {x : Lv} {S S' Sf S0 S1 X W Sc Sr : cS} {hi lo a b : Int64} {kd : Int32}
theorem wL_id {a i : Nat} {e : Int64} (h : sL S a i = e) : wL a i e S = S := by
  have : (fun b => if b = a then vp_updL (sL S a) i e else sL S b) = sL S := by
    funext b
    by_cases c : b = a
    · rw [if_pos c, c]
      funext j
      show (if j = i then e else sL S a j) = sL S a j
      by_cases c2 : j = i
      · rw [if_pos c2, c2, h]
      · rw [if_neg c2]
    · rw [if_neg c]
  show (S.1, S.2.1, S.2.2.1, (fun b => if b = a then vp_updL (sL S a) i e else sL S b), S.2.2.2.2) = S
  rw [this]
  rfl
theorem setf_CI (h : CI F loc par ty G tq (x :: r) S) (hk : lv S k) (hkd : h_kd S k = 7) (he : e < h_n S k) (ho : c_obj hi lo = nI o) (hol : o = 0 ∨ lv S o) (h0 : c_kind hi ≠ nI 5) : ∃ X W D, Ans (d + 6) 174 [.ref 2, .int (nI k), .int (nI e), .long hi, .long lo] S none W ∧ mtX k D S X W ∧ CI F loc par ty G tq (x :: r) W ∧ (∀ i, sL W 47 i = sL S 47 i ∧ sL W 48 i = sL S 48 i) ∧ h_n X k = h_n S k ∧ h_kd X k = h_kd S k ∧ (∀ i, i < h_n S k → h_hi X k i = (if i = e then hi else h_hi S k i) ∧ h_lo X k i = (if i = e then lo else h_lo S k i)) := by
  obtain ⟨l1, l2, l3, l4, l5⟩ := CI_len h
  have hok := mHS_ok h.1 k hk.1 hk.2.1
  obtain ⟨kd, z, k7, z3, k3, k10, ekd, ez, hw⟩ := kdz hok
  have e7 : kd = 7 := by rw [← ekd]; exact hkd
  subst e7
  have hn : h_n S k = z := by
    unfold h_n
    rw [ez, ekd, if_neg (by decide)]
  obtain ⟨X, W, D, A1, hc, x10, xo, x1, x2⟩ := mset_T (d := d) (e := e) h.1 h.2.1 hk k3 k7 rfl k10 z3 (by omega) ho hol
  have hM := mtX_of hc (KX_refl W) (mHS_cl hc.1)
  rw [List.append_nil] at hM
  obtain ⟨c1, c2, c3, c4, c5, c6, c7, c8, c9, c10, c11, c12, c13, c14, c15, c16⟩ := hc
  have eX : h_kd X k = h_kd S k := by unfold h_kd; rw [c12]
  have hnX : h_n X k = h_n S k := by
    unfold h_n h_z
    rw [eX, x10, k10]
  have ev : ∀ i, i < h_n S k → h_hi X k i = (if i = e then hi else h_hi S k i) ∧ h_lo X k i = (if i = e then lo else h_lo S k i) := fun i hi' => by
    unfold h_hi h_lo
    rw [eX, ekd, c16]
    by_cases c : i = e
    · rw [if_pos c, if_pos c, c]
      exact ⟨x1, x2⟩
    · rw [if_neg c, if_neg c]
      have u : ∀ q, q = h_at (c_width 7) i ∨ q = h_at (c_width 7) i + 1 → sL X (h_row S k) q = sL S (h_row S k) q := fun q hq => by
        have cw : c_width 7 = 2 := rfl
        unfold h_at at hq
        rw [cw] at hq
        refine xo q ?_ ?_ ?_
        · rw [cw]; omega
        · unfold h_at; rw [cw]; omega
        · unfold h_at; rw [cw]; omega
      exact ⟨u _ (Or.inl rfl), u _ (Or.inr rfl)⟩
  have hst : ∀ i, sL W 47 i = sL S 47 i ∧ sL W 48 i = sL S 48 i := fun i => by
    rw [c5, c11 47 (by omega), c11 48 (by omega)]
    exact ⟨rfl, rfl⟩
  have hlb := CI_lob h
  refine ⟨X, W, D, A1, hM, ?_, hst, hnX, eX, ev⟩
  have hCI := CI_mut (v := 0) h hM c1 c2 (fun _ => by rw [x10, k10]) (fun _ => ⟨fun i hi' => ?_, fun c2' i hi' => ?_⟩) (fun i _ => hst i) hlb (vP x) (vQ x)
  · exact hCI
  · rw [hnX] at hi'
    rw [(ev i hi').1, c12, k3]
    have hvl := (h.2.2.2.1 k hk).2.1 i hi'
    by_cases c : i = e
    · rw [if_pos c]
      exact ⟨h0, fun c => absurd rfl c⟩
    · rw [if_neg c]
      exact ⟨hvl.1, fun c => absurd rfl c⟩
  · rw [c12, k3] at c2'
    exact absurd c2' (by decide)
theorem setf_XR (h : CI F loc par ty G tq (x :: r) S) (hX : XR P T gT Q β F D z nn g0 g1 g3 g4 g5 gn tq (x :: r) S Sr) (hk : lv S k) (hkd : h_kd S k = 7) (he : e < h_n S k) (hM : mtX k K S X W) (hst : ∀ i, sL W 47 i = sL S 47 i ∧ sL W 48 i = sL S 48 i) (hnX : h_n X k = h_n S k) (hkX : h_kd X k = h_kd S k) (hev : ∀ i, i < h_n S k → h_hi X k i = (if i = e then hi else h_hi S k i) ∧ h_lo X k i = (if i = e then lo else h_lo S k i)) : ∃ t v2 v3 v4 v5 v6 v7 n m, β k < 1500 ∧ tRef Sr (β k) t v2 v3 v4 v5 v6 v7 n m ∧ e < n ∧ vrel β (h_hi S k e) (h_lo S k e) (sA Sr v2 e) (sL Sr v4 e) (sL Sr v5 e) ∧ (d = d ∧ ∀ kd a b, Ans (d + 9) 358 [.ref t, .int (nI e), .int kd, .long a, .long b] Sr none (keyW e v2 v4 v5 kd a b Sr)) ∧ ∀ kd a b, vrel β hi lo kd a b → XR P T gT Q β F (D ++ K.map β) z nn g0 g1 g3 g4 g5 gn tq (x :: r) W (keyW e v2 v4 v5 kd a b Sr) := by
  obtain ⟨t, v2, v3, v4, v5, v6, v7, n, m, b1, t1, t2, t108, tS, wr, wd, wl, wj, f0, f1, fn, fv, _, h87⟩ := XR_o h hX hk
  refine ⟨t, v2, v3, v4, v5, v6, v7, n, m, b1, wr, by omega, fv e he, ⟨rfl, fun kd a b => rset_T wr (by omega)⟩, fun kd a b hv => ?_⟩
  obtain ⟨hHR, hTF⟩ := set_HR (e := e) (kd := kd) (a := a) (b := b) hX.1 hM hk t1 wr wd wl wj he hnX hkX hev (fun c => by rw [hkd] at c; exact absurd c (by decide)) hv
  have := XR_mut (v := 0) hX h.2.2.2.2.1 hM b1 hTF t1 hHR (Nat.zero_le _) (fun i _ => hst i)
  rw [Nat.sub_zero, Nat.sub_zero, wI_id (show sI (keyW e v2 v4 v5 kd a b Sr) 6151 = nI (topC (x :: r) + offC (x :: r)) from by have e := XR_51 hX; exact e)] at this
  exact this
end
