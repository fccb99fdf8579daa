/-! DEEDS ON BOTH SIDES: what is true in the reference; not -/
section
variable {P : Nat → Prop} {T : cS} {gT : Nat} {Q : Nat → Prop} {β : Nat → Nat} {F : Nat → Nat → Nat → Prop} {loc par : Nat → Nat → Nat} {ty : Nat → Nat × Nat} {G : Nat → Nat → Nat → Nat × Nat × LL → Prop} {D K : List Nat} {z nn g0 g1 g3 g4 g5 gn d d' v o t tp i : Nat} {tq : Nat → Nat × Nat} {C r : List Lv} {x : Lv} {s' : Nat × Nat × LL} {Sc Sr S S' W : cS} {hi lo a b w : Int64} {kd : Int32}
/-- an object on the stack: in both -/
theorem XR_th (h : CI F loc par ty G tq (x :: r) S) (hX : XR P T gT Q β F D z nn g0 g1 g3 g4 g5 gn tq (x :: r) S Sr) (hi : i < vH x) (h3 : sA Sr 91 (topC (x :: r) + offC (x :: r) - 1 - i) = nI 3) : ∃ o t, lv S o ∧ c_obj (sL S 47 (topC (x :: r) - 1 - i)) (sL S 48 (topC (x :: r) - 1 - i)) = nI o ∧ ob (sL S 47 (topC (x :: r) - 1 - i)) (sL S 48 (topC (x :: r) - 1 - i)) = o ∧ sL Sr 92 (topC (x :: r) + offC (x :: r) - 1 - i) = lN (β o) ∧ β o < 1500 ∧ sQ Sr 86 (β o) = some t ∧ tOk Sr (β o) t ∧ obR β F S Sr g0 g1 nn o ∧ sI Sr (100 * t + 0) = sA S 3 o ∧ sI Sr (100 * t + 1) = nI (h_n S o) := by
  obtain ⟨l1, l2, l3, l4, l5⟩ := CI_len h
  obtain ⟨o, o1, o2, o3⟩ := vrel_ob (XR_v hX hi)
  have eo := ob_n o2 o1
  rcases o3 with ⟨_, hn⟩ | ⟨p1, p2, p3⟩
  · exact absurd h3 hn
  · have hob := XR_ob h hX (i := topC (x :: r) - 1 - i) (by omega) (by rw [eo]; omega)
    rw [eo] at hob
    have ho := hX.1.ob hob.1
    obtain ⟨t, t1, t2⟩ := hX.1.th hob.1
    refine ⟨o, t, hob.1, o2, eo, p3, hob.2, t1, t2, ho, ?_⟩
    obtain ⟨_, _, t', v2, v3, v4, v5, v6, v7, n, m, c1, c2, c3, _⟩ := ho
    have e : t' = t := by
      have := c1.1
      rw [t1] at this
      injection this with this
      exact this.symm
    subst e
    exact ⟨c2, c3⟩
theorem tha_T {k g : Nat} (hk : k < 20480) (h3 : sA S 91 k = nI 3) (ha : sL S 92 k = lN o) (ho : o < 1500) (hq : sQ S 86 o = some g) (ok : tOk S o g) : Ans (d + 9) 361 [.ref 61, .int (nI k)] S (some (.ref g)) S :=
  Ans.of (by rw [ml_361]; exact Nat.le_of_ble_eq_true rfl) (Bod.lv (by rfl) (rTa_2 (e91 := 3) (zg := 0) (by omega) hk h3 (by omega) rfl (by rw [ha, lN_i]) ho (tOk_t ok).1 hq))
theorem tha_N {k e : Nat} (hk : k < 20480) (h3 : sA S 91 k = nI e) (he : e ≤ 4) (hn : e ≠ 3) : Ans (d + 9) 361 [.ref 61, .int (nI k)] S (some .null) S :=
  Ans.of (by rw [ml_361]; exact Nat.le_of_ble_eq_true rfl) (Bod.lv (by rfl) (rTa_1 (e91 := e) (by omega) hk h3 (by omega) hn))
theorem tru_R {nx : Int32} (h : CI F loc par ty G tq (x :: r) S) (hX : XR P T gT Q β F D z nn g0 g1 g3 g4 g5 gn tq (x :: r) S Sr) (hi : i < vH x) : (truV S (sL S 47 (topC (x :: r) - 1 - i)) (sL S 48 (topC (x :: r) - 1 - i)) → Ans (d + 11) 359 [.ref 61, .int (nI (topC (x :: r) + offC (x :: r) - 1 - i))] (wI 6151 nx Sr) (some (.int 1)) (wI 6151 nx Sr)) ∧ (¬ truV S (sL S 47 (topC (x :: r) - 1 - i)) (sL S 48 (topC (x :: r) - 1 - i)) → Ans (d + 11) 359 [.ref 61, .int (nI (topC (x :: r) + offC (x :: r) - 1 - i))] (wI 6151 nx Sr) (some (.int 0)) (wI 6151 nx Sr)) := by
  have m := ml_359
  obtain ⟨l1, l2, l3, l4, l5⟩ := CI_len h
  have hT := CI_T h
  obtain ⟨e, e4, ea, ek⟩ := XR_k h hX hi
  have hv := XR_v hX hi
  have hth := fun h3 => XR_th h hX hi h3
  have go : ∀ {v : Option Value}, Bod (d + 10) 359 0 [(0, .ref 61), (1, .int (nI (topC (x :: r) + offC (x :: r) - 1 - i)))] [] (wI 6151 nx Sr) v (wI 6151 nx Sr) → Ans (d + 11) 359 [.ref 61, .int (nI (topC (x :: r) + offC (x :: r) - 1 - i))] (wI 6151 nx Sr) v (wI 6151 nx Sr) := fun h => Ans.of (by rw [m]; exact Nat.le_of_ble_eq_true rfl) (Bod.lv (by rfl) h)
  have hk2 : topC (x :: r) + offC (x :: r) - 1 - i < 20480 := by omega
  generalize topC (x :: r) + offC (x :: r) - 1 - i = k at *
  generalize sL S 47 (topC (x :: r) - 1 - i) = hi at *
  generalize sL S 48 (topC (x :: r) - 1 - i) = lo at *
  have nn : ∀ {a b : Nat}, a < 16 → b < 16 → (nI a = nI b ↔ a = b) := fun ha hb => ⟨nI_j (by omega) (by omega), fun e => by rw [e]⟩
  unfold truV
  rw [ek, nn (by omega : e + 1 < 16) (by omega : 2 < 16), nn (by omega : e + 1 < 16) (by omega : 3 < 16), show (nI (e + 1) ≠ nI 1 ↔ e + 1 ≠ 1) from not_congr (nn (by omega) (by omega)), show (nI (e + 1) ≠ nI 2 ↔ e + 1 ≠ 2) from not_congr (nn (by omega) (by omega)), show (nI (e + 1) ≠ nI 3 ↔ e + 1 ≠ 3) from not_congr (nn (by omega) (by omega)), show (nI (e + 1) ≠ nI 4 ↔ e + 1 ≠ 4) from not_congr (nn (by omega) (by omega)), nn (by omega : e + 1 < 16) (by omega : 4 < 16)]
  have ea' : sA (wI 6151 nx Sr) 91 k = nI e := ea
  by_cases c0 : e = 0
  · exact ⟨fun c => by omega, fun _ => go (rTu_1 (d := d + 2) (by omega) hk2 ea' (by omega) c0)⟩
  by_cases c1 : e = 1
  · have el : sL Sr 92 k = lo := ((vr_int hv).2 (by rw [ek, c1])).2
    by_cases cl : lo = 0
    · refine ⟨fun c => ?_, fun _ => go (rTu_2 (d := d + 2) (by omega) hk2 ea' (by omega) c1 (by
        show sm_c1 .eq (lg_cmp (sL Sr 92 k) 0) true false = true
        rw [el, cl]; exact lgeq_T))⟩
      rcases c with c | c | c | c
      · exact absurd cl c.2
      · omega
      · omega
      · omega
    · exact ⟨fun _ => go (rTu_3 (d := d + 2) (by omega) hk2 ea' (by omega) c1 (by
        show sm_c1 .eq (lg_cmp (sL Sr 92 k) 0) true false = false
        rw [el]; exact lgeq_F cl)), fun c => absurd (Or.inl ⟨by omega, cl⟩) c⟩
  by_cases c2 : e = 2
  · have hs : srel hi lo (sL Sr 92 k) (sL Sr 93 k) := by
      rw [ea, c2] at hv
      rcases hv with ⟨_, _, h3⟩ | ⟨_, _, h3⟩ | ⟨_, h3, _⟩ | ⟨_, h3⟩ | ⟨_, _, _, _, _, h3, _⟩ | ⟨_, _, _, _, h3, _⟩
      · exact absurd h3 (by decide)
      · exact absurd h3 (by decide)
      · exact absurd h3 (by decide)
      · exact h3
      · exact absurd h3 (by decide)
      · exact absurd h3 (by decide)
    obtain ⟨n, n15, nl, nb⟩ := slen hs
    have qm := many_T (d := d + 1) (S := wI 6151 nx Sr) nb
    rw [nl]
    by_cases cn : 0 < n
    · exact ⟨fun _ => go (rTu_5 (d := d + 2) (by omega) hk2 ea' (by omega) c2 (by omega) qm cn), fun c => absurd (Or.inr (Or.inl ⟨by omega, cn⟩)) c⟩
    · exact ⟨fun c => by omega, fun _ => go (rTu_4 (d := d + 2) (by omega) hk2 ea' (by omega) c2 (by omega) qm (by omega))⟩
  by_cases c3 : e = 3
  · obtain ⟨o, g, ol, o2, eo, oa, ob', oq, ok, _, f0, f1⟩ := hth (by rw [ea, c3])
    rw [eo]
    have qt := tha_T (d := d + 1) (S := wI 6151 nx Sr) hk2 (by rw [ea', c3]) oa ob' oq (tWf_M (rM_I (i := 6151) (v := nx) (by omega) (rM.refl Sr)) hX.1.wf |>.1 _ _ ob' oq)
    obtain ⟨t1, t2, N, t3⟩ := tOk_t ok
    obtain ⟨kd, zz, k7, z3, k3, k10, hkd, hzz, hw⟩ := kdz (mHS_ok h.1 o ol.1 ol.2.1)
    have f0' : sI (wI 6151 nx Sr) (100 * g + 0) = nI kd := by
      show (if 100 * g + 0 = 6151 then nx else sI Sr (100 * g + 0)) = _
      rw [if_neg (by omega), f0, k3]
    have f1' : sI (wI 6151 nx Sr) (100 * g + 1) = nI (h_n S o) := by
      show (if 100 * g + 1 = 6151 then nx else sI Sr (100 * g + 1)) = _
      rw [if_neg (by omega), f1]
    have hn : (kd = 1 ∨ kd = 2) → h_n S o = zz := fun hk => by
      unfold h_n
      rw [hkd, hzz]
      rcases hk with e | e <;> (rw [e]; rfl)
    rw [hkd, hzz]
    by_cases k1 : kd = 1
    · rw [hn (Or.inl k1)] at f1'
      by_cases z0 : 0 < zz
      · exact ⟨fun _ => go (rTu_7 (d := d + 2) (by omega) hk2 ea' (by omega) (by omega) c0 c1 c2 t1 qt t3 f0' (by omega) k1 f1' (by omega) z0), fun c => absurd (Or.inr (Or.inr (Or.inr ⟨by omega, Or.inr z0⟩))) c⟩
      · exact ⟨fun c => by omega, fun _ => go (rTu_6 (d := d + 2) (by omega) hk2 ea' (by omega) (by omega) c0 c1 c2 t1 qt t3 f0' (by omega) k1 f1' (by omega) (by omega))⟩
    by_cases k2 : kd = 2
    · rw [hn (Or.inr k2)] at f1'
      by_cases z0 : 0 < zz
      · exact ⟨fun _ => go (rTu_10 (d := d + 2) (by omega) hk2 ea' (by omega) (by omega) c0 c1 c2 t1 qt t3 f0' (by omega) k1 k2 f1' (by omega) z0), fun c => absurd (Or.inr (Or.inr (Or.inr ⟨by omega, Or.inr z0⟩))) c⟩
      · exact ⟨fun c => by omega, fun _ => go (rTu_9 (d := d + 2) (by omega) hk2 ea' (by omega) (by omega) c0 c1 c2 t1 qt t3 f0' (by omega) k1 k2 f1' (by omega) (by omega))⟩
    · exact ⟨fun _ => go (rTu_8 (d := d + 2) (by omega) hk2 ea' (by omega) (by omega) c0 c1 c2 t1 qt t3 f0' (by omega) k1 k2), fun c => absurd (Or.inr (Or.inr (Or.inr ⟨by omega, Or.inl ⟨k1, k2⟩⟩))) c⟩
  · have qt := tha_N (d := d + 1) (S := wI 6151 nx Sr) hk2 ea' e4 c3
    exact ⟨fun _ => go (rTu_11 (d := d + 2) (by omega) hk2 ea' (by omega) (by omega) c0 c1 c2 qt), fun c => absurd (Or.inr (Or.inr (Or.inl ⟨by omega, by omega, by omega, by omega⟩))) c⟩
/-- not -/
theorem not_R (x0 : Nat) (hx0 : x0 < 2 ^ 20) (h : CI F loc par ty G tq (x :: r) S) (hl : lob (vL x) + 1 ≤ vH x) : opR F loc par ty G tq (d + 13) 189 [.ref 53, .int (nI 25)] 400 [.ref 61, .int (nI 10), .int (nI x0)] x r (vH x - 1 + 1, vU x, vL x) S := by
  have m189 := ml_189
  have m400 := ml_400
  obtain ⟨l1, l2, l3, l4, l5⟩ := CI_len h
  have hT := CI_T h
  obtain ⟨q1, q0⟩ := tru_C (d := d + 1) (i := 0) h (by omega)
  by_cases c : truV S (sL S 47 (topC (x :: r) - 1 - 0)) (sL S 48 (topC (x :: r) - 1 - 0))
  · refine opR_int (dg := d + 3) (v := 1) 0 h hl (by omega) (fun S' hg => Ans.of (by rw [m189]; exact Nat.le_of_ble_eq_true rfl) (Bod.lv (by rfl) (mAc_1 (d := d + 4) (by omega) rfl (q1 c) hg))) (fun P T gT Q β D z nn g0 g1 g3 g4 g5 gn Sr hX => ?_)
    have k := (tru_R (d := d + 1) (i := 0) (nx := nI (topC (x :: r) + offC (x :: r) - 1)) h hX (by omega)).1 c
    rw [show topC (x :: r) + offC (x :: r) - 1 - 0 = topC (x :: r) + offC (x :: r) - 1 by omega] at k
    exact Ans.of (by rw [m400]; exact Nat.le_of_ble_eq_true rfl) (Bod.lv (by rfl) (rPl_6 (d := d + 4) (by omega) hx0 rfl (XR_51 hX) (by omega) (by omega) k (rpshI_T (d := d + 2) (by omega))))
  · refine opR_int (dg := d + 3) (v := 1) 1 h hl (by omega) (fun S' hg => Ans.of (by rw [m189]; exact Nat.le_of_ble_eq_true rfl) (Bod.lv (by rfl) (mAc_2 (d := d + 4) (by omega) rfl (q0 c) hg))) (fun P T gT Q β D z nn g0 g1 g3 g4 g5 gn Sr hX => ?_)
    have k := (tru_R (d := d + 1) (i := 0) (nx := nI (topC (x :: r) + offC (x :: r) - 1)) h hX (by omega)).2 c
    rw [show topC (x :: r) + offC (x :: r) - 1 - 0 = topC (x :: r) + offC (x :: r) - 1 by omega] at k
    exact Ans.of (by rw [m400]; exact Nat.le_of_ble_eq_true rfl) (Bod.lv (by rfl) (rPl_7 (d := d + 4) (by omega) hx0 rfl (XR_51 hX) (by omega) (by omega) k (rpshI_T (d := d + 2) (by omega))))
end
