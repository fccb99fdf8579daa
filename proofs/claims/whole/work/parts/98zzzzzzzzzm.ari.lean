/-! DEEDS ON BOTH SIDES: two ints -/
section
variable {P : Nat → Prop} {T : cS} {gT : Nat} {Q : Nat → Prop} {β : Nat → Nat} {F : Nat → Nat → Nat → Prop} {loc par : Nat → Nat → Nat} {ty : Nat → Nat × Nat} {G : Nat → Nat → Nat → Nat × Nat × LL → Prop} {D K : List Nat} {z nn g0 g1 g3 g4 g5 gn d v o t tp : Nat} {tq : Nat → Nat × Nat} {C r : List Lv} {x : Lv} {Sc Sr S S' W : cS} {hi lo a b : Int64} {kd : Int32}
/-- kinds of both sides -/
theorem vr_k (h : vrel β hi lo kd a b) (h0 : c_kind hi ≠ 0) : ∃ e, e ≤ 4 ∧ kd = nI e ∧ c_kind hi = nI (e + 1) := by
  rcases h with ⟨h1, _, h3⟩ | ⟨h1, _, h3⟩ | ⟨h1, h3, h4⟩ | ⟨h3, h1⟩ | ⟨_, _, _, h1, _, h3, _⟩ | ⟨_, _, h1, _, h3, _⟩
  · rw [h1] at h0; exact absurd (by decide) h0
  · exact ⟨0, by omega, h3, by rw [h1]; decide⟩
  · exact ⟨1, by omega, h3, by rw [h1]; decide⟩
  · refine ⟨2, by omega, h3, ?_⟩
    unfold c_kind
    rw [srel_kd h1]
    decide
  · exact ⟨3, by omega, h3, by rw [h1]; decide⟩
  · exact ⟨4, by omega, h3, by rw [h1]; decide⟩
/-- a value of both, with its kind -/
theorem XR_k (h : CI F loc par ty G tq (x :: r) Sc) (hX : XR P T gT Q β F D z nn g0 g1 g3 g4 g5 gn tq (x :: r) Sc Sr) {i : Nat} (hi : i < vH x) : ∃ e, e ≤ 4 ∧ sA Sr 91 (topC (x :: r) + offC (x :: r) - 1 - i) = nI e ∧ c_kind (sL Sc 47 (topC (x :: r) - 1 - i)) = nI (e + 1) := vr_k (XR_v hX hi) (CI_k h hi)
theorem nI_ne {a b : Nat} (ha : a < 2 ^ 31) (hb : b < 2 ^ 31) (h : a ≠ b) : nI a ≠ nI b := fun c => h (by
  have := congrArg gN c
  rw [gN_nI ha, gN_nI hb] at this
  exact this)
theorem ab_1 {k : Nat} (hk : k < 2 ^ 20) (l3 : sI S 4603 = nI t) (ht : t ≤ 20480) (h2 : 2 ≤ t) (c0 : c_kind (sL S 47 (t - 1 - 0)) = nI k) (c1 : c_kind (sL S 47 (t - 1 - 1)) = nI k) : Ans (d + 11) 191 [.ref 53, .int (nI k)] S (some (.int (nI 1))) S :=
  Ans.of (by rw [ml_191]; exact Nat.le_of_ble_eq_true rfl) (Bod.lv (by rfl) (mAb_1 (d := d + 2) hk (hi_ev (d := d + 8) l3 (by omega) ht) (kindOf_ev (d := d + 9)) c0 (hi_ev (d := d + 8) l3 (by omega) ht) (kindOf_ev (d := d + 9)) c1))
theorem ab_0 {k : Nat} (hk : k < 2 ^ 20) (l3 : sI S 4603 = nI t) (ht : t ≤ 20480) (h2 : 2 ≤ t) (c : ¬ (c_kind (sL S 47 (t - 1 - 0)) = nI k ∧ c_kind (sL S 47 (t - 1 - 1)) = nI k)) : Ans (d + 11) 191 [.ref 53, .int (nI k)] S (some (.int (nI 0))) S := by
  by_cases c0 : c_kind (sL S 47 (t - 1 - 0)) = nI k
  · exact Ans.of (by rw [ml_191]; exact Nat.le_of_ble_eq_true rfl) (Bod.lv (by rfl) (mAb_2 (d := d + 2) hk (hi_ev (d := d + 8) l3 (by omega) ht) (kindOf_ev (d := d + 9)) c0 (hi_ev (d := d + 8) l3 (by omega) ht) (kindOf_ev (d := d + 9)) (fun c1 => c ⟨c0, c1⟩)))
  · exact Ans.of (by rw [ml_191]; exact Nat.le_of_ble_eq_true rfl) (Bod.lv (by rfl) (mAb_3 (d := d + 2) hk (hi_ev (d := d + 8) l3 (by omega) ht) (kindOf_ev (d := d + 9)) c0))
/-- the reference's stack at tp with a value put -/
def pshW (tp : Nat) (kd : Int32) (xa xb : Int64) (S : cS) : cS := wI 6151 (nI (tp + 1)) (wL 93 tp xb (wL 92 tp xa (wA 91 tp kd (wI 6151 (nI tp) S))))
theorem rpsh_T {xa xb : Int64} (hb : tp < 20480) : Ans (d + 9) 352 [.ref 61, .int kd, .long xa, .long xb] (wI 6151 (nI tp) S) none (pshW tp kd xa xb S) := rpush_T (rIe _ _ _) hb
theorem rpshI_T {xa : Int64} (hb : tp < 20480) : Ans (d + 10) 353 [.ref 61, .long xa] (wI 6151 (nI tp) S) none (pshW tp (nI 1) xa 0 S) := Ans.of (by rw [ml_353]; exact Nat.le_of_ble_eq_true rfl) (Bod.lv (by rfl) (rPi_1 (d := d + 1) (rpsh_T (d := d) hb)))
theorem pshW_s {xa xb : Int64} : sFr tp S (pshW tp kd xa xb S) ∧ sI (pshW tp kd xa xb S) 6151 = nI (tp + 1) ∧ sA (pshW tp kd xa xb S) 91 tp = kd ∧ sL (pshW tp kd xa xb S) 92 tp = xa ∧ sL (pshW tp kd xa xb S) 93 tp = xb :=
  ⟨sFr_I (sFr_push (sFr_I (sFr.refl _ _)) (Nat.le_refl _)), rIe _ _ _, spush_at⟩
/-- a deed with two ints: an int, or an error -/
theorem ari_R {jc jr : Nat} {ar : List Value} (f : Int64 → Int64 → Sum Nat Int64) (h : CI F loc par ty G tq (x :: r) S) (hl : lob (vL x) + 2 ≤ vH x)
    (hC1 : ∀ w S', f (sL S 48 (topC (x :: r) - 1 - 1)) (sL S 48 (topC (x :: r) - 1 - 0)) = .inr w → Ans (d + 11) 191 [.ref 53, .int (nI 2)] S (some (.int (nI 1))) S → Ans (d + 11) 135 [.ref 46, .int (nI 1)] S (some (.long (sL S 48 (topC (x :: r) - 1 - 1)))) S → Ans (d + 11) 135 [.ref 46, .int (nI 0)] S (some (.long (sL S 48 (topC (x :: r) - 1 - 0)))) S → Ans (d + 11) 148 [.ref 46, .int (nI 2), .long 2305843009213693952, .long w] S (some (.int (nI 0))) S' → Ans (d + 12) jc [.ref 53] S (some (.int (nI 0))) S')
    (hC2 : ∀ e, f (sL S 48 (topC (x :: r) - 1 - 1)) (sL S 48 (topC (x :: r) - 1 - 0)) = .inl e → Ans (d + 11) 191 [.ref 53, .int (nI 2)] S (some (.int (nI 1))) S → Ans (d + 11) 135 [.ref 46, .int (nI 1)] S (some (.long (sL S 48 (topC (x :: r) - 1 - 1)))) S → Ans (d + 11) 135 [.ref 46, .int (nI 0)] S (some (.long (sL S 48 (topC (x :: r) - 1 - 0)))) S → (1 ≤ e ∧ e ≤ 99) ∧ Ans (d + 12) jc [.ref 53] S (some (.int (nI e))) S)
    (hC3 : Ans (d + 11) 191 [.ref 53, .int (nI 2)] S (some (.int (nI 0))) S → Ans (d + 12) jc [.ref 53] S (some (.int (nI 2))) S)
    (hR1 : ∀ Sr t w, 2 ≤ t → t ≤ 18700 → sI Sr 6151 = nI t → sA Sr 91 (t - 2) = nI 1 → sA Sr 91 (t - 1) = nI 1 → f (sL Sr 92 (t - 2)) (sL Sr 92 (t - 1)) = .inr w → Ans (d + 12) jr ar Sr (some (.int 1)) (pshW (t - 2) (nI 1) w 0 Sr))
    (hR2 : ∀ Sr t e, 2 ≤ t → t ≤ 18700 → sI Sr 6151 = nI t → sA Sr 91 (t - 2) = nI 1 → sA Sr 91 (t - 1) = nI 1 → f (sL Sr 92 (t - 2)) (sL Sr 92 (t - 1)) = .inl e → Ans (d + 12) jr ar Sr (some (.int 0)) (wI 6164 (nI e) Sr))
    (hR3 : ∀ Sr t e0 e1, 2 ≤ t → t ≤ 18700 → sI Sr 6151 = nI t → e0 ≤ 4 → e1 ≤ 4 → sA Sr 91 (t - 2) = nI e1 → sA Sr 91 (t - 1) = nI e0 → ¬ (e0 = 1 ∧ e1 = 1) → Ans (d + 12) jr ar Sr (some (.int 0)) (wI 6164 (nI 2) Sr)) : opR F loc par ty G tq (d + 12) jc [.ref 53] jr ar x r (vH x - 2 + 1, vU x, vL x) S := by
  obtain ⟨l1, l2, l3, l4, l5⟩ := CI_len h
  have hT := CI_T h
  have q1 := lo_ev (d := d + 9) (b := 1) l3 (by omega) (by omega)
  have q0 := lo_ev (d := d + 9) (b := 0) l3 (by omega) (by omega)
  have hk : ∀ {P : Nat → Prop} {T : cS} {gT : Nat} {Q : Nat → Prop} {β : Nat → Nat} {D : List Nat} {z nn g0 g1 g3 g4 g5 gn : Nat} {Sr : cS}, XR P T gT Q β F D z nn g0 g1 g3 g4 g5 gn tq (x :: r) S Sr → ∃ e0 e1, e0 ≤ 4 ∧ e1 ≤ 4 ∧ sA Sr 91 (topC (x :: r) + offC (x :: r) - 1) = nI e0 ∧ sA Sr 91 (topC (x :: r) + offC (x :: r) - 2) = nI e1 ∧ c_kind (sL S 47 (topC (x :: r) - 1 - 0)) = nI (e0 + 1) ∧ c_kind (sL S 47 (topC (x :: r) - 1 - 1)) = nI (e1 + 1) ∧ (c_kind (sL S 47 (topC (x :: r) - 1 - 0)) = nI 2 → sL Sr 92 (topC (x :: r) + offC (x :: r) - 1) = sL S 48 (topC (x :: r) - 1 - 0)) ∧ (c_kind (sL S 47 (topC (x :: r) - 1 - 1)) = nI 2 → sL Sr 92 (topC (x :: r) + offC (x :: r) - 2) = sL S 48 (topC (x :: r) - 1 - 1)) := fun hX => by
    obtain ⟨e0, a1, a2, a3⟩ := XR_k h hX (i := 0) (by omega)
    obtain ⟨e1, b1, b2, b3⟩ := XR_k h hX (i := 1) (by omega)
    have v0 := (vr_int (XR_v hX (i := 0) (by omega))).2
    have v1 := (vr_int (XR_v hX (i := 1) (by omega))).2
    rw [show topC (x :: r) + offC (x :: r) - 1 - 0 = topC (x :: r) + offC (x :: r) - 1 by omega] at a2 v0
    rw [show topC (x :: r) + offC (x :: r) - 1 - 1 = topC (x :: r) + offC (x :: r) - 2 by omega] at b2 v1
    exact ⟨e0, e1, a1, b1, a2, b2, a3, b3, fun c => (v0 c).2, fun c => (v1 c).2⟩
  by_cases hb : c_kind (sL S 47 (topC (x :: r) - 1 - 0)) = nI 2 ∧ c_kind (sL S 47 (topC (x :: r) - 1 - 1)) = nI 2
  · have qb := ab_1 (d := d) (k := 2) (by omega) l3 (by omega) (by omega) hb.1 hb.2
    have ones : ∀ {e : Nat}, e ≤ 4 → nI 2 = nI (e + 1) → e = 1 := fun {e} he c => by
      have := congrArg gN c
      rw [gN_nI (by omega), gN_nI (by omega)] at this
      omega
    cases hf : f (sL S 48 (topC (x :: r) - 1 - 1)) (sL S 48 (topC (x :: r) - 1 - 0)) with
    | inl e =>
      obtain ⟨he, hc⟩ := hC2 e hf qb q1 q0
      refine opR_err h he hc (fun P T gT Q β D z nn g0 g1 g3 g4 g5 gn Sr hX => ?_)
      obtain ⟨e0, e1, m0, m1, a0, a1, k0, k1, x0, x1⟩ := hk hX
      rw [hb.1] at k0
      rw [hb.2] at k1
      rw [ones m0 k0] at a0
      rw [ones m1 k1] at a1
      exact hR2 Sr _ e (by omega) hT (XR_51 hX) a1 a0 (by rw [x0 hb.1, x1 hb.2]; exact hf)
    | inr w =>
      refine opR_give (dg := d + 2) (v := 2) (o := 0) h hl (by omega) (int_o _).1 (by omega) (Or.inl rfl) (int_o w).2 (fun S' hg => hC1 w S' hf qb q1 q0 hg) (fun P T gT Q β D z nn g0 g1 g3 g4 g5 gn Sr hX => ?_)
      obtain ⟨e0, e1, m0, m1, a0, a1, k0, k1, x0, x1⟩ := hk hX
      rw [hb.1] at k0
      rw [hb.2] at k1
      rw [ones m0 k0] at a0
      rw [ones m1 k1] at a1
      have et : topC (x :: r) - 2 + offC (x :: r) = topC (x :: r) + offC (x :: r) - 2 := by omega
      rw [et]
      obtain ⟨p1, p2, p3, p4, p5⟩ := pshW_s (tp := topC (x :: r) + offC (x :: r) - 2) (kd := nI 1) (xa := w) (xb := 0) (S := Sr)
      exact ⟨_, hR1 Sr _ w (by omega) hT (XR_51 hX) a1 a0 (by rw [x0 hb.1, x1 hb.2]; exact hf), p1, p2, by rw [p3, p4, p5]; exact vr_mk w⟩
  · have qb := ab_0 (d := d) (k := 2) (by omega) l3 (by omega) (by omega) hb
    refine opR_err h (e := 2) (by omega) (hC3 qb) (fun P T gT Q β D z nn g0 g1 g3 g4 g5 gn Sr hX => ?_)
    obtain ⟨e0, e1, m0, m1, a0, a1, k0, k1, _⟩ := hk hX
    refine hR3 Sr _ e0 e1 (by omega) hT (XR_51 hX) m0 m1 a1 a0 (fun c => hb ?_)
    rw [k0, k1, c.1, c.2]
    exact ⟨rfl, rfl⟩
end
