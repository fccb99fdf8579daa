/-! DEEDS ON BOTH SIDES: what is true; not -/
section
variable {P : Nat → Prop} {T : cS} {gT : Nat} {Q : Nat → Prop} {β : Nat → Nat} {F : Nat → Nat → Nat → Prop} {loc par : Nat → Nat → Nat} {ty : Nat → Nat × Nat} {G : Nat → Nat → Nat → Nat × Nat × LL → Prop} {D K : List Nat} {z nn g0 g1 g3 g4 g5 gn d d' v o t tp i : Nat} {tq : Nat → Nat × Nat} {C r : List Lv} {x : Lv} {s' : Nat × Nat × LL} {Sc Sr S S' W : cS} {hi lo a b w : Int64} {kd : Int32}
theorem kd16 (hi : Int64) : ∃ q, q < 16 ∧ c_kd hi = lN q ∧ c_kind hi = nI q := by
  obtain ⟨n, hn, e⟩ := wb_of hi
  refine ⟨n / 2 ^ 60, by omega, ?_⟩
  have e1 : c_kd hi = lN (n / 2 ^ 60) := by
    rw [e]
    unfold c_kd
    exact wb_shr (k := 60) hn (by decide)
  refine ⟨e1, ?_⟩
  unfold c_kind
  rw [e1, lN_i]
theorem nI_j {i j : Nat} (hi : i < 2 ^ 31) (hj : j < 2 ^ 31) (h : nI i = nI j) : i = j := by
  have := congrArg gN h
  rw [gN_nI hi, gN_nI hj] at this
  exact this
/-- true, in the class -/
def truV (S : cS) (hi lo : Int64) : Prop := (c_kind hi = nI 2 ∧ lo ≠ 0) ∨ (c_kind hi = nI 3 ∧ 0 < c_len hi) ∨ (c_kind hi ≠ nI 1 ∧ c_kind hi ≠ nI 2 ∧ c_kind hi ≠ nI 3 ∧ c_kind hi ≠ nI 4) ∨ (c_kind hi = nI 4 ∧ ((h_kd S (ob hi lo) ≠ 1 ∧ h_kd S (ob hi lo) ≠ 2) ∨ 0 < h_z S (ob hi lo)))
theorem lgeq_F {x y : Int64} (h : x ≠ y) : sm_c1 .eq (lg_cmp x y) true false = false := k1_eq_F (cmp_ne h)
theorem lgeq_T {x : Int64} : sm_c1 .eq (lg_cmp x x) true false = true := k1_eq_T (cmp_eq rfl)
theorem kdz (hok : h_ok S o) : ∃ kd z, kd ≤ 7 ∧ z ≤ 300 ∧ sA S 3 o = nI kd ∧ sA S 10 o = nI z ∧ h_kd S o = kd ∧ h_z S o = z ∧ (c_width kd = 0 → z = 0) := by
  obtain ⟨kd, z, x, y, h7, h3, h10, _, _, _, _, hz, hw, _⟩ := hok
  have hz3 : z ≤ 300 := by
    have : c_most kd ≤ 300 := by unfold c_most; split <;> (try split) <;> omega
    omega
  exact ⟨kd, z, h7, hz3, h3, h10, by unfold h_kd; rw [h3, gN_nI (by omega)], by unfold h_z; rw [h10, gN_nI (by omega)], hw⟩
theorem tru_C (h : CI F loc par ty G tq (x :: r) S) (hi : i < vH x) : (truV S (sL S 47 (topC (x :: r) - 1 - i)) (sL S 48 (topC (x :: r) - 1 - i)) → Ans (d + 11) 131 [.ref 46, .int (nI i)] S (some (.int 1)) S) ∧ (¬ truV S (sL S 47 (topC (x :: r) - 1 - i)) (sL S 48 (topC (x :: r) - 1 - i)) → Ans (d + 11) 131 [.ref 46, .int (nI i)] S (some (.int 0)) S) := by
  have m := ml_131
  obtain ⟨l1, l2, l3, l4, l5⟩ := CI_len h
  have q1 := hi_ev (d := d + 8) (b := i) l3 (by omega) (by omega)
  have r1 := lo_ev (d := d + 8) (b := i) l3 (by omega) (by omega)
  have q2 := kindOf_ev (d := d + 9) (S := S) (hi := sL S 47 (topC (x :: r) - 1 - i))
  obtain ⟨o, o1, o2, o3⟩ := mHS_o h.1 (i := topC (x :: r) - 1 - i) (by omega)
  have eo := ob_n o2 o1
  have go : ∀ {v : Option Value}, Bod (d + 10) 131 0 [(0, .ref 46), (1, .int (nI i))] [] S v S → Ans (d + 11) 131 [.ref 46, .int (nI i)] S v S := fun h => Ans.of (by rw [m]; exact Nat.le_of_ble_eq_true rfl) (Bod.lv (by rfl) h)
  have oo := object_n (d := d + 7) (b := i) l3 (by omega) (by omega) o2
  generalize sL S 47 (topC (x :: r) - 1 - i) = hi at *
  generalize sL S 48 (topC (x :: r) - 1 - i) = lo at *
  obtain ⟨q, q16, qk, qc⟩ := kd16 hi
  rw [qc] at q2
  unfold truV
  rw [qc, eo]
  have nn : ∀ {a b : Nat}, a < 16 → b < 16 → (nI a = nI b ↔ a = b) := fun ha hb => ⟨nI_j (by omega) (by omega), fun e => by rw [e]⟩
  rw [nn q16 (by omega : 2 < 16), nn q16 (by omega : 3 < 16), show (nI q ≠ nI 1 ↔ q ≠ 1) from not_congr (nn q16 (by omega)), show (nI q ≠ nI 2 ↔ q ≠ 2) from not_congr (nn q16 (by omega)), show (nI q ≠ nI 3 ↔ q ≠ 3) from not_congr (nn q16 (by omega)), show (nI q ≠ nI 4 ↔ q ≠ 4) from not_congr (nn q16 (by omega)), nn q16 (by omega : 4 < 16)]
  by_cases c1 : q = 1
  · refine ⟨fun c => ?_, fun _ => go (mTr_1 (d := d + 2) (by omega) q1 (by omega) q2 c1)⟩
    omega
  by_cases c2 : q = 2
  · by_cases cl : lo = 0
    · refine ⟨fun c => ?_, fun _ => go (mTr_2 (d := d + 2) (by omega) q1 (by omega) q2 c2 r1 (by rw [cl]; exact lgeq_T))⟩
      rcases c with c | c | c | c
      · exact absurd cl c.2
      · omega
      · omega
      · omega
    · exact ⟨fun _ => go (mTr_3 (d := d + 2) (by omega) q1 (by omega) q2 c2 r1 (lgeq_F cl)), fun c => absurd (Or.inl ⟨c2, cl⟩) c⟩
  by_cases c3 : q = 3
  · have hlen := (c_len_eq hi).2
    have ql := lengthOf_ev (d := d + 9) (S := S) (hi := hi) rfl
    by_cases cl : 0 < c_len hi
    · exact ⟨fun _ => go (mTr_5 (d := d + 2) (by omega) q1 (by omega) q2 c3 (by omega) ql cl), fun c => absurd (Or.inr (Or.inl ⟨c3, cl⟩)) c⟩
    · refine ⟨fun c => ?_, fun _ => go (mTr_4 (d := d + 2) (by omega) q1 (by omega) q2 c3 (by omega) ql (by omega))⟩
      omega
  by_cases c4 : q = 4
  · by_cases e0 : o = 0
    · rw [e0] at oo
      have hk0 : h_kd S o = 0 := by
        obtain ⟨_, _, _, _, _, _, _, _, _, _, q0⟩ := h.1.1.2.1
        unfold h_kd
        rw [e0, q0]
        rfl
      exact ⟨fun _ => go (mTr_8 (d := d + 2) (a2 := 0) (by omega) q1 (by omega) q2 (by omega) c1 c2 c3 (by omega) oo (by omega) (kindAt_0 (d := d + 8)) (by omega) (by omega)), fun c => absurd (Or.inr (Or.inr (Or.inr ⟨c4, Or.inl (by omega)⟩))) c⟩
    have ho1 : lv S o := o3.resolve_left e0
    obtain ⟨kd, zz, k7, z3, k3, k10, hkd, hzz, _⟩ := kdz (mHS_ok h.1 o ho1.1 ho1.2.1)
    have ck := kindAt_T (d := d + 8) (S := S) (k := o) ho1.1 ho1.2.1
    have cz := sizeAt_T (d := d + 8) (S := S) (k := o) ho1.1 ho1.2.1
    rw [k3] at ck
    rw [k10] at cz
    rw [hkd, hzz]
    by_cases k1 : kd = 1
    · by_cases z0 : 0 < zz
      · exact ⟨fun _ => go (mTr_7 (d := d + 2) (by omega) q1 (by omega) q2 (by omega) c1 c2 c3 (by omega) oo (by omega) ck k1 (by omega) cz z0), fun c => absurd (Or.inr (Or.inr (Or.inr ⟨c4, Or.inr z0⟩))) c⟩
      · refine ⟨fun c => ?_, fun _ => go (mTr_6 (d := d + 2) (by omega) q1 (by omega) q2 (by omega) c1 c2 c3 (by omega) oo (by omega) ck k1 (by omega) cz (by omega))⟩
        omega
    by_cases k2 : kd = 2
    · by_cases z0 : 0 < zz
      · exact ⟨fun _ => go (mTr_10 (d := d + 2) (by omega) q1 (by omega) q2 (by omega) c1 c2 c3 (by omega) oo (by omega) ck k1 k2 (by omega) cz z0), fun c => absurd (Or.inr (Or.inr (Or.inr ⟨c4, Or.inr z0⟩))) c⟩
      · refine ⟨fun c => ?_, fun _ => go (mTr_9 (d := d + 2) (by omega) q1 (by omega) q2 (by omega) c1 c2 c3 (by omega) oo (by omega) ck k1 k2 (by omega) cz (by omega))⟩
        omega
    · exact ⟨fun _ => go (mTr_8 (d := d + 2) (by omega) q1 (by omega) q2 (by omega) c1 c2 c3 (by omega) oo (by omega) ck k1 k2), fun c => absurd (Or.inr (Or.inr (Or.inr ⟨c4, Or.inl ⟨k1, k2⟩⟩))) c⟩
  · have o0 : o = 0 := by
      have : c_obj hi lo = nI 0 := if_neg (fun c => c4 (by
        rw [qk] at c
        exact lN_inj (by omega) (by omega) c))
      rw [this] at o2
      exact (nI_j (by omega) (by omega) o2).symm
    rw [o0] at oo
    exact ⟨fun _ => go (mTr_8 (d := d + 2) (a2 := 0) (by omega) q1 (by omega) q2 (by omega) c1 c2 c3 (by omega) oo (by omega) (kindAt_0 (d := d + 8)) (by omega) (by omega)), fun c => absurd (Or.inr (Or.inr (Or.inl ⟨c1, c2, c3, c4⟩))) c⟩
end
