/-! BOTH MACHINES: an entry with a key is put, or its value: the reference -/
section
variable {P : Nat → Prop} {T : cS} {gT : Nat} {Q : Nat → Prop} {β β' : Nat → Nat} {F : Nat → Nat → Nat → Prop} {loc par : Nat → Nat → Nat} {ty : Nat → Nat × Nat} {G : Nat → Nat → Nat → Nat × Nat × LL → Prop} {D D' K : List Nat} {z nn g0 g1 g3 g4 g5 gn d d' dr v o i k k0 e ek n m t tp tt r0 : Nat} {tq : Nat → Nat × Nat} {C r : List Lv} {x : Lv} {S S' S1 X W Sc Sr : cS} {f g : Nat → Nat} {hi lo kh kl a b ka kb : Int64} {kd rb : Int32}
theorem keyR_tn {kk : Int32} {kd : Nat} (h : keyR β Sr g0 g1 nn kd kh kl kk ka kb) (hn : tnE Sr W g0 g1) : keyR β W g0 g1 nn kd kh kl kk ka kb := by
  unfold keyR at h ⊢
  split at h
  · rename_i c
    rw [if_pos c]
    exact h
  · rename_i c
    rw [if_neg c]
    obtain ⟨h1, h2, r, h3, h4, h5, h6⟩ := h
    exact ⟨h1, h2, r, h3, h4, by rw [(rnE hn r).1]; exact h5, by rw [(rnE hn r).2]; exact h6⟩
/-- a new entry -/
theorem put_XRm (hX : XR P T gT Q β F D z nn g0 g1 g3 g4 g5 gn tq (x :: r) S Sr) (hcal : cCal S (x :: r)) (hM : mtX k K S X S') (hl : lv S k) (k3 : sA S 3 k ≠ nI 3) (hw : c_width (h_kd S k) = 4) (h104 : h_n S k < 104) (hv0 : v ≤ vH x) (hst : ∀ i, i < topC (x :: r) - v → sL S' 47 i = sL S 47 i ∧ sL S' 48 i = sL S 48 i) (hnX : h_n X k = h_n S k + 1) (hkX : h_kd X k = h_kd S k) (hev : ∀ i, i < h_n S k → h_hi X k i = h_hi S k i ∧ h_lo X k i = h_lo S k i) (hv1 : h_hi X k (h_n S k) = hi) (hv2 : h_lo X k (h_n S k) = lo) (hek : c_width (h_kd S k) = 4 → (∀ i, i < h_n S k → h_kh X k i = h_kh S k i ∧ h_kl X k i = h_kl S k i) ∧ h_kh X k (h_n S k) = kh ∧ h_kl X k (h_n S k) = kl) (hkey : keyR β Sr g0 g1 nn (h_kd S k) kh kl (nI ek) ka kb) (hek4 : ek ≤ 4) (hv : vrel β hi lo kd a b) : ∃ t S4 S5 W5, sQ Sr 86 (β k) = some t ∧ 108 ≤ t ∧ (∃ N, (sS Sr)[t - 108]? = some (13, N) ∧ (sS S4)[t - 108]? = some (13, N) ∧ (sS S5)[t - 108]? = some (13, N)) ∧ sI Sr (100 * t + 1) = nI (h_n S k) ∧ Ans (d + 10) 375 [.ref t, .int (nI 0), .long 0, .long 0] Sr none S4 ∧ Ans (d + 10) 377 [.ref t, .int (nI (h_n S k)), .int (nI ek), .long ka, .long kb] S4 none S5 ∧ Ans (d + 9) 358 [.ref t, .int (nI (h_n S k)), .int kd, .long a, .long b] S5 none W5 ∧ (sA S4 91 = sA Sr 91 ∧ sL S4 92 = sL Sr 92 ∧ sL S4 93 = sL Sr 93) ∧ (sA S5 91 = sA Sr 91 ∧ sL S5 92 = sL Sr 92 ∧ sL S5 93 = sL Sr 93) ∧ sQ W5 = sQ Sr ∧ sI W5 6151 = sI Sr 6151 ∧ XR P T gT Q β F (D ++ K.map β) z nn g0 g1 g3 g4 g5 gn tq (vAt x (vP x) (vQ x) (vH x - v, vU x, vL x) :: r) S' (wI 6151 (nI (topC (x :: r) - v + offC (x :: r))) W5) := by
  obtain ⟨t, v2, v3, v4, v5, v6, v7, n, m, bt, t1, t2, t108, ⟨N, tS⟩, wr, wd, wl, wj, f0, f1, fn, fv, f6, h87⟩ := HR_o hX.1 hl
  obtain ⟨fm, _⟩ := f6 hw
  obtain ⟨S4, S5, w2, w3, w4, w5, w6, w7, n', m', A4, A5, A6, x91, x92, x93, y91, y92, y93, ⟨l4, s4⟩, ⟨l5, s5⟩, h87', hI, hI1, hok', hTF, hW, hn', hm', r1, r2, r2', r2'', r3, r4, r4', r4''⟩ := addk_R (d := d) (kd := kd) (a := a) (b := b) (kk := nI ek) (ka := ka) (kb := kb) wr wd wl wj f1 fn fm h104 ⟨ek, by omega, rfl⟩
  have hN := tF_N hX.1.wf hTF bt t1 hX.1.2.2.2.2.2.2.2.2.2.1
  have hHR := addk_HR hX.1 hM hl t1 hTF hok' hW wr hI hI1 k3 (by rw [h87']; exact h87) hn' (fun _ => hm') hnX hkX hev hv1 hv2 hek hv r1 ⟨r2, r2', r2''⟩ (fun _ => r3) (fun _ => by rw [r4, r4', r4'']; exact keyR_tn hkey hN)
  have hXR := XR_mut hX hcal hM bt hTF t1 hHR hv0 hst
  have hlt := (List.getElem?_eq_some_iff.mp tS).1
  exact ⟨t, S4, S5, _, t1, t108, ⟨N, tS, by rw [s4, List.getElem?_append_left hlt]; exact tS, by rw [s5, List.getElem?_append_left hlt]; exact tS⟩, f1, A4, A5, A6, ⟨x91, x92, x93⟩, ⟨y91, y92, y93⟩, hTF.2.1, hI 6151 (by omega), hXR⟩
/-- another value for an entry -/
theorem put_XRh {X : cS} (hX : XR P T gT Q β F D z nn g0 g1 g3 g4 g5 gn tq (x :: r) S Sr) (hcal : cCal S (x :: r)) (hM : mtX k K S X S') (hl : lv S k) (he : e < h_n S k) (hv0 : v ≤ vH x) (hst : ∀ i, i < topC (x :: r) - v → sL S' 47 i = sL S 47 i ∧ sL S' 48 i = sL S 48 i) (hnX : h_n X k = h_n S k) (hkX : h_kd X k = h_kd S k) (hev : ∀ i, i < h_n S k → h_hi X k i = (if i = e then hi else h_hi S k i) ∧ h_lo X k i = (if i = e then lo else h_lo S k i)) (hek : c_width (h_kd S k) = 4 → ∀ i, i < h_n S k → h_kh X k i = h_kh S k i ∧ h_kl X k i = h_kl S k i) (hv : vrel β hi lo kd a b) : ∃ t W5, sQ Sr 86 (β k) = some t ∧ 108 ≤ t ∧ (∃ N, (sS Sr)[t - 108]? = some (13, N)) ∧ Ans (d + 9) 358 [.ref t, .int (nI e), .int kd, .long a, .long b] Sr none W5 ∧ sQ W5 = sQ Sr ∧ sI W5 6151 = sI Sr 6151 ∧ XR P T gT Q β F (D ++ K.map β) z nn g0 g1 g3 g4 g5 gn tq (vAt x (vP x) (vQ x) (vH x - v, vU x, vL x) :: r) S' (wI 6151 (nI (topC (x :: r) - v + offC (x :: r))) W5) := by
  obtain ⟨t, v2, v3, v4, v5, v6, v7, n, m, bt, t1, t2, t108, ⟨N, tS⟩, wr, wd, wl, wj, f0, f1, fn, fv, f6, h87⟩ := HR_o hX.1 hl
  obtain ⟨hHR, hTF⟩ := set_HR (e := e) (kd := kd) (a := a) (b := b) hX.1 hM hl t1 wr wd wl wj he hnX hkX hev hek hv
  have hXR := XR_mut hX hcal hM bt hTF t1 hHR hv0 hst
  have A3 := rset_T (d := d) (kd := kd) (xa := a) (xb := b) wr (show e < n by omega)
  exact ⟨t, _, t1, t108, ⟨N, tS⟩, A3, rfl, rfl, hXR⟩
end
