/-! DEEDS ON BOTH SIDES: is a value in a list or a dict: the reference -/
section
variable {P : Nat → Prop} {T : cS} {gT : Nat} {Q : Nat → Prop} {β : Nat → Nat} {F : Nat → Nat → Nat → Prop} {loc par : Nat → Nat → Nat} {ty : Nat → Nat × Nat} {G : Nat → Nat → Nat → Nat × Nat × LL → Prop} {D D' K : List Nat} {z nn g0 g1 g3 g4 g5 gn d v o t k e n m ob_ kb vb v2 v3 v4 v5 v6 v7 xx : Nat} {tq : Nat → Nat × Nat} {C r : List Lv} {x : Lv} {g : Nat → Nat} {Sc Sr S S' X W W0 : cS} {hi lo a b kh kl xh xl : Int64} {kd : Int32} {M : Nat → Prop}
/-- the loop, whatever a step of it is -/
theorem inL_R {w dd pp tt : Nat} {v' : Option Value} {Sf : cS} (hw : w ≤ 1) (hwe : w = 1 ↔ ∃ j, j < n ∧ M j) (hend : ∀ (lv : sm_L), sm_get lv 0 = some (.ref 61) → sm_get lv 2 = some (.int (nI pp)) → sm_get lv 4 = some (.int (nI w)) → sm_get lv 5 = some (.ref tt) → sm_get lv 6 = some (.int (nI n)) → Bod dd 401 196 lv [] S v' Sf) (hst : ∀ (i b : Nat) (lv : sm_L), i < n → b ≤ 1 → sm_get lv 0 = some (.ref 61) → sm_get lv 2 = some (.int (nI pp)) → sm_get lv 4 = some (.int (nI b)) → sm_get lv 5 = some (.ref tt) → sm_get lv 6 = some (.int (nI i)) → (∀ (lv1 : sm_L) (c : Nat), c ≤ 1 → (c = 1 ↔ b = 1 ∨ M i) → sm_get lv1 0 = some (.ref 61) → sm_get lv1 2 = some (.int (nI pp)) → sm_get lv1 4 = some (.int (nI c)) → sm_get lv1 5 = some (.ref tt) → sm_get lv1 6 = some (.int (nI (i + 1))) → Bod dd 401 196 lv1 [] S v' Sf) → Bod dd 401 196 lv [] S v' Sf) : ∀ (k i b : Nat) (lv : sm_L), i + k = n → b ≤ 1 → (b = 1 ↔ ∃ j, j < i ∧ M j) → sm_get lv 0 = some (.ref 61) → sm_get lv 2 = some (.int (nI pp)) → sm_get lv 4 = some (.int (nI b)) → sm_get lv 5 = some (.ref tt) → sm_get lv 6 = some (.int (nI i)) → Bod dd 401 196 lv [] S v' Sf := by
  intro k
  induction k with
  | zero =>
    intro i b lv hk hb hbe q0 q2 q4 q5 q6
    have ei : i = n := by omega
    subst ei
    have : b = w := by
      by_cases c : b = 1
      · have := hwe.mpr (hbe.mp c)
        omega
      · by_cases c2 : w = 1
        · exact absurd (hbe.mpr (hwe.mp c2)) c
        · omega
    subst this
    exact hend lv q0 q2 q4 q5 q6
  | succ k ih =>
    intro i b lv hk hb hbe q0 q2 q4 q5 q6
    refine hst i b lv (by omega) hb q0 q2 q4 q5 q6 (fun lv1 c hc hce a0 a2 a4 a5 a6 => ih (i + 1) c lv1 (by omega) hc ⟨fun h1 => ?_, fun h1 => ?_⟩ a0 a2 a4 a5 a6)
    · rcases hce.mp h1 with h | h
      · obtain ⟨j, j1, j2⟩ := hbe.mp h
        exact ⟨j, by omega, j2⟩
      · exact ⟨i, by omega, h⟩
    · obtain ⟨j, j1, j2⟩ := h1
      by_cases hj : j = i
      · subst hj
        exact hce.mpr (Or.inr j2)
      · exact hce.mpr (Or.inl (hbe.mpr ⟨j, by omega, j2⟩))
theorem orI : ∀ b, b ≤ 1 → (nI b ||| nI 0) = nI b ∧ (nI b ||| nI 1) = nI 1 := fun b hb => by
  rcases Nat.lt_or_ge b 1 with c | c
  · obtain rfl : b = 0 := by omega
    decide
  · obtain rfl : b = 1 := by omega
    decide
/-- a value on the stack against an entry: the same on both sides -/
theorem ent_eq (h : CI F loc par ty G tq (x :: r) S) (hX : XR P T gT Q β F D z nn g0 g1 g3 g4 g5 gn tq (x :: r) S Sr) {i : Nat} (hi' : i < vH x) {hi lo a b : Int64} {kd : Int32} (hv : vrel β hi lo kd a b) (k0 : c_kind hi ≠ 0) (hob : ob hi lo ≠ 0 → lv S (ob hi lo)) : (hi = sL S 47 (topC (x :: r) - 1 - i) ∧ lo = sL S 48 (topC (x :: r) - 1 - i)) ↔ rEqv Sr (topC (x :: r) + offC (x :: r) - 1 - i) kd a b := by
  have hv1 := XR_v hX hi'
  obtain ⟨l1, l2, l3, l4, l5⟩ := CI_len h
  have := vr_eq hv1 hv (CI_k h hi') k0 (fun h0 => (XR_ob h hX (by omega) h0).2) (fun h0 => hX.1.b (hob h0)) (fun h1 h0 e => hX.1.2.1 _ _ (XR_ob h hX (by omega) h1).1 (hob h0) e)
  unfold rEqv
  rw [← this]
  exact ⟨fun c => ⟨c.1.symm, c.2.symm⟩, fun c => ⟨c.1.symm, c.2.symm⟩⟩
/-- is a value in: op 38 of the class, the sign 1 of the reference -/
theorem in_RR (h : CI F loc par ty G tq (x :: r) S) (hl : lob (vL x) + 2 ≤ vH x) : opR F loc par ty G tq (d + 15) 189 [.ref 53, .int (nI 38)] 400 [.ref 61, .int (nI 8), .int (nI 1)] x r (vH x - 2 + 1, vU x, vL x) S := by
  have m189 := ml_189
  have m401 := ml_401
  have m403 := ml_403
  obtain ⟨l1, l2, l3, l4, l5⟩ := CI_len h
  have hT := CI_T h
  obtain ⟨o, q, o1, o2, o3, hq, hqn, hqs⟩ := in_C (d := d + 1) h (by omega)
  have e1 : topC (x :: r) + offC (x :: r) - 1 - 1 = topC (x :: r) + offC (x :: r) - 2 := by omega
  have e0 : topC (x :: r) + offC (x :: r) - 1 - 0 = topC (x :: r) + offC (x :: r) - 1 := by omega
  have goR : ∀ {Sr : cS} {e : Int32} {W : cS}, Bod (d + 13) 401 0 [(0, .ref 61), (1, .int (nI 1))] [] Sr (some (.int e)) W → Ans (d + 14) 401 [.ref 61, .int (nI 1)] Sr (some (.int e)) W := fun h => Ans.of (by rw [m401]; exact Nat.le_of_ble_eq_true rfl) (Bod.lv (by rfl) h)
  have his : ∀ {P T gT Q β D z nn g0 g1 g3 g4 g5 gn Sr}, XR P T gT Q β F D z nn g0 g1 g3 g4 g5 gn tq (x :: r) S Sr → (∀ kq, kq = 1 ∨ kq = 2 → h_kd S o ≠ kq → Ans (d + 13) 363 [.ref 61, .int (nI (topC (x :: r) + offC (x :: r) - 1)), .int (nI kq)] Sr (some (.int (nI 0))) Sr) ∧ ∀ kq, kq = 1 ∨ kq = 2 → h_kd S o = kq → lv S o ∧ Ans (d + 13) 363 [.ref 61, .int (nI (topC (x :: r) + offC (x :: r) - 1)), .int (nI kq)] Sr (some (.int (nI 1))) Sr ∧ ∀ t, sQ Sr 86 (β o) = some t → tOk Sr (β o) t → Ans (d + 13) 361 [.ref 61, .int (nI (topC (x :: r) + offC (x :: r) - 1))] Sr (some (.ref t)) Sr := fun {P T gT Q β D z nn g0 g1 g3 g4 g5 gn Sr} hX => by
    have := XR_is (d := d + 4) h hX (ob_ := 0) (by omega) o2 o3 o1
    rw [e0] at this
    exact this
  have hik : ∀ {P T gT Q β D z nn g0 g1 g3 g4 g5 gn Sr}, XR P T gT Q β F D z nn g0 g1 g3 g4 g5 gn tq (x :: r) S Sr → ((c_kind (sL S 47 (topC (x :: r) - 1 - 1)) = nI 2 ∨ c_kind (sL S 47 (topC (x :: r) - 1 - 1)) = nI 3) → Ans (d + 13) 403 [.ref 61, .int (nI (topC (x :: r) + offC (x :: r) - 2))] Sr (some (.int (nI 1))) Sr) ∧ ((c_kind (sL S 47 (topC (x :: r) - 1 - 1)) ≠ nI 2 ∧ c_kind (sL S 47 (topC (x :: r) - 1 - 1)) ≠ nI 3) → Ans (d + 13) 403 [.ref 61, .int (nI (topC (x :: r) + offC (x :: r) - 2))] Sr (some (.int (nI 0))) Sr) := fun {P T gT Q β D z nn g0 g1 g3 g4 g5 gn Sr} hX => by
    obtain ⟨e, e4, ea, ek⟩ := XR_k h hX (i := 1) (by omega)
    rw [e1] at ea
    rw [ek]
    have go : ∀ {w : Int32}, Bod (d + 12) 403 0 [(0, .ref 61), (1, .int (nI (topC (x :: r) + offC (x :: r) - 2)))] [] Sr (some (.int w)) Sr → Ans (d + 13) 403 [.ref 61, .int (nI (topC (x :: r) + offC (x :: r) - 2))] Sr (some (.int w)) Sr := fun h => Ans.of (by rw [m403]; exact Nat.le_of_ble_eq_true rfl) (Bod.lv (by rfl) h)
    refine ⟨fun c => ?_, fun c => ?_⟩
    · by_cases c1 : e = 1
      · exact go (rIk_1 (d := d + 4) (by omega) (by omega) ea (by omega) c1)
      · have c2 : e = 2 := by
          rcases c with c | c
          · have := nI_j (by omega) (by omega) c; omega
          · have := nI_j (by omega) (by omega) c; omega
        exact go (rIk_3 (d := d + 4) (by omega) (by omega) ea (by omega) c1 c2)
    · exact go (rIk_2 (d := d + 4) (by omega) (by omega) ea (by omega) (fun c1 => c.1 (by rw [c1])) (fun c1 => c.2 (by rw [c1])))
  cases q with
  | none =>
    refine opR_err (e := 2) h (by omega) (Ans.of (by rw [m189]; exact Nat.le_of_ble_eq_true rfl) (Bod.lv (by rfl) (mAc_15 (d := d + 6) (by omega) rfl (hqn rfl)))) (fun P T gT Q β D z nn g0 g1 g3 g4 g5 gn Sr hX => rbin_0 (d := d + 5) (by omega) (goR ?_))
    obtain ⟨is0, is1⟩ := his hX
    rcases hq with ⟨k1, k2, _⟩ | ⟨k2, kk, _⟩ | ⟨_, _, w, _, c, _⟩ | ⟨_, w, _, c, _⟩
    · exact rBi_7 (d := d + 5) (XR_51 hX) (by omega) (by omega) (by omega) (is0 1 (Or.inl rfl) k1) (is0 2 (Or.inr rfl) k2) (rfail_T (d := d + 4) 2 (by omega) Sr)
    · obtain ⟨hol, j1, j2⟩ := is1 2 (Or.inr rfl) k2
      obtain ⟨t, v2, v3, v4, v5, v6, v7, n, m, b1, t1, t2, t108, ⟨N, tS⟩, wr, wd, wl, wj, f0, f1, fn, _, _, _⟩ := XR_o h hX hol
      have f0' : sI Sr (100 * t + 0) = nI 2 := by
        rw [f0]
        obtain ⟨kd, zz, k7, z3, k3, k10, hkd, hzz, hw⟩ := kdz (mHS_ok h.1 o hol.1 hol.2.1)
        rw [k3, show kd = 2 by omega]
      exact rBi_6 (d := d + 5) (XR_51 hX) (by omega) (by omega) (by omega) (is0 1 (Or.inl rfl) (by omega)) j1 t108 (j2 t t1 t2) tS f0' (by omega) rfl ((hik hX).2 kk) (rfail_T (d := d + 4) 2 (by omega) Sr)
    · cases c
    · cases c
  | some w =>
    refine opR_int (lN w) (dg := d + 4) (v := 2) h hl (by omega) (fun S' hg => Ans.of (by rw [m189]; exact Nat.le_of_ble_eq_true rfl) (Bod.lv (by rfl) (mAc_15 (d := d + 6) (by omega) rfl (hqs w S' rfl hg)))) (fun P T gT Q β D z nn g0 g1 g3 g4 g5 gn Sr hX => rbin_1 (d := d + 5) (by omega) (goR ?_))
    obtain ⟨is0, is1⟩ := his hX
    obtain ⟨ex, ex4, eax, ekx⟩ := XR_k h hX (i := 1) (by omega)
    rw [e1] at eax
    have t2 : 2 ≤ topC (x :: r) + offC (x :: r) := by omega
    have fin : ∀ (t n : Nat) (N : Nat), w ≤ 1 → n ≤ 300 → 108 ≤ t → (sS Sr)[t - 108]? = some (13, N) → sI Sr (100 * t + 1) = nI n → ∀ (lv : sm_L), sm_get lv 0 = some (.ref 61) → sm_get lv 2 = some (.int (nI (topC (x :: r) + offC (x :: r) - 2))) → sm_get lv 4 = some (.int (nI w)) → sm_get lv 5 = some (.ref t) → sm_get lv 6 = some (.int (nI n)) → Bod (d + 13) 401 196 lv [] Sr (some (.int 1)) (pshW (topC (x :: r) + offC (x :: r) - 2) (nI 1) (lN w) 0 Sr) := fun t n N hw hn3 t108 tS f1 lv q0 q2 q4 q5 q6 => by
      by_cases c : w = 0
      · subst c
        exact rBiL_1 (d := d + 5) q0 q2 q4 q5 q6 (by omega) (by omega) t108 tS f1 (by omega) (by omega) (XR_51 hX) (by omega) t2 (by decide) (rpshI_T (d := d + 3) (by omega))
      · obtain rfl : w = 1 := by omega
        exact rBiL_2 (d := d + 5) q0 q2 q4 q5 q6 (by omega) (by omega) t108 tS f1 (by omega) (by omega) (XR_51 hX) (by omega) t2 (by decide) (rpshI_T (d := d + 3) (by omega))
    rcases hq with ⟨_, _, c⟩ | ⟨_, _, c⟩ | ⟨k2, kk, w', w1, c, w2⟩ | ⟨k1, w', w1, c, w2⟩
    · cases c
    · cases c
    · injection c with c
      subst c
      obtain ⟨hol, j1, j2⟩ := is1 2 (Or.inr rfl) k2
      obtain ⟨t, v2, v3, v4, v5, v6, v7, n, m, b1, t1, t2', t108, ⟨N, tS⟩, wr, wd, wl, wj, f0, f1, fn, _, f6, _⟩ := XR_o h hX hol
      have f0' : sI Sr (100 * t + 0) = nI 2 := by
        rw [f0]
        obtain ⟨kd, zz, k7, z3, k3, k10, hkd, hzz, hw⟩ := kdz (mHS_ok h.1 o hol.1 hol.2.1)
        rw [k3, show kd = 2 by omega]
      have hn3 := h_n_le (mHS_ok h.1 o hol.1 hol.2.1)
      obtain ⟨fm, fk⟩ := f6 (by rw [k2]; rfl)
      obtain ⟨r1, r2, r3, r4, r5, r6, r7, r8, r9, s2, s3, s4, s5, s6, s7, s8, s9, u2, u3, u4, u5, u6, u7⟩ := wr
      have k3' : sA S 3 o = nI 2 := by
        obtain ⟨kd, zz, k7, z3, k3, k10, hkd, hzz, hw⟩ := kdz (mHS_ok h.1 o hol.1 hol.2.1)
        rw [k3, show kd = 2 by omega]
      have hkk := (h.2.2.2.1 o hol).2.2 k3'
      refine rBi_5 (d := d + 5) (XR_51 hX) (by omega) t2 (by omega) (is0 1 (Or.inl rfl) (by omega)) j1 t108 (j2 t t1 t2') tS f0' (by omega) rfl ((hik hX).1 kk) (fun lv1 a0 a2 _ a4 a5 a6 => ?_)
      refine inL_R (M := fun j => h_kh S o j = sL S 47 (topC (x :: r) - 1 - 1) ∧ h_kl S o j = sL S 48 (topC (x :: r) - 1 - 1)) w1 w2 (fin t _ N w1 hn3 t108 tS f1) (fun i b lw hi' hb q0 q2 q4 q5 q6 hB => ?_) (h_n S o) 0 0 lv1 (by omega) (by omega) ⟨fun c => by omega, fun ⟨j, c, _⟩ => by omega⟩ a0 a2 a4 a5 a6
      clear w2
      have hk := fk i hi'
      rw [k2] at hk
      unfold keyR at hk
      rw [if_pos rfl] at hk
      obtain ⟨hv, _, hk12⟩ := hk
      obtain ⟨ek, ek4, eka⟩ : ∃ ek, ek ≤ 4 ∧ sA Sr v3 i = nI ek := by
        rcases hk12 with c | c
        · exact ⟨1, by omega, c⟩
        · exact ⟨2, by omega, c⟩
      have k0 : c_kind (h_kh S o i) ≠ 0 := by
        rcases hkk i hi' with c | c
        · rw [c]; decide
        · rw [c]; decide
      have hob0 : ob (h_kh S o i) (h_kl S o i) = 0 := by
        obtain ⟨oo, p1, p2, p3⟩ := vrel_ob hv
        rw [ob_n p2 p1]
        rcases p3 with ⟨c, _⟩ | ⟨_, c, _⟩
        · exact c
        · rcases hk12 with c' | c'
          · rw [c'] at c; exact absurd c (by decide)
          · rw [c'] at c; exact absurd c (by decide)
      have heq := ent_eq h hX (i := 1) (by omega) hv k0 (fun c => absurd hob0 c)
      rw [e1, eka] at heq
      obtain ⟨y1, y0⟩ := rEq_T (d := d + 4) (xa := sL Sr v6 i) (xb := sL Sr v7 i) (show topC (x :: r) + offC (x :: r) - 2 < 20480 by omega) eax ex4 ek4
      obtain ⟨o1', o2'⟩ := orI b hb
      by_cases hM : h_kh S o i = sL S 47 (topC (x :: r) - 1 - 1) ∧ h_kl S o i = sL S 48 (topC (x :: r) - 1 - 1)
      · exact rBiL_3 (d := d + 5) q0 q2 q4 q5 q6 (by omega) (by omega) t108 tS f1 (by omega) hi' f0' (by omega) (by omega) r5 s3 s9 (by omega) eka (by omega) r8 s6 s9 (by omega) r9 s7 s9 (by omega) (y1 (heq.mp hM)) (fun lv1 a0 a2 a4 a5 a6 => hB lv1 1 (by omega) ⟨fun _ => Or.inr hM, fun _ => rfl⟩ a0 a2 (by rw [a4, o2']) a5 a6)
      · exact rBiL_4 (d := d + 5) q0 q2 q4 q5 q6 (by omega) (by omega) t108 tS f1 (by omega) hi' f0' (by omega) (by omega) r5 s3 s9 (by omega) eka (by omega) r8 s6 s9 (by omega) r9 s7 s9 (by omega) (y0 (fun c => hM (heq.mpr c))) (fun lv1 a0 a2 a4 a5 a6 => hB lv1 b hb ⟨fun c => Or.inl c, fun c => c.resolve_right hM⟩ a0 a2 (by rw [a4, o1']) a5 a6)
    · injection c with c
      subst c
      obtain ⟨hol, j1, j2⟩ := is1 1 (Or.inl rfl) k1
      obtain ⟨t, v2, v3, v4, v5, v6, v7, n, m, b1, t1, t2', t108, ⟨N, tS⟩, wr, wd, wl, wj, f0, f1, fn, f5, _, _⟩ := XR_o h hX hol
      have hok := mHS_ok h.1 o hol.1 hol.2.1
      have f0' : sI Sr (100 * t + 0) = nI 1 := by
        rw [f0]
        obtain ⟨kd, zz, k7, z3, k3, k10, hkd, hzz, hw⟩ := kdz hok
        rw [k3, show kd = 1 by omega]
      have hn3 := h_n_le hok
      obtain ⟨r1, r2, r3, r4, r5, r6, r7, r8, r9, s2, s3, s4, s5, s6, s7, s8, s9, u2, u3, u4, u5, u6, u7⟩ := wr
      refine rBi_1 (d := d + 5) (XR_51 hX) (by omega) t2 (by omega) j1 t108 (j2 t t1 t2') tS f0' (by omega) (by omega) (fun lv1 a0 a2 _ a4 a5 a6 => ?_)
      refine inL_R (M := fun j => h_hi S o j = sL S 47 (topC (x :: r) - 1 - 1) ∧ h_lo S o j = sL S 48 (topC (x :: r) - 1 - 1)) w1 w2 (fin t _ N w1 hn3 t108 tS f1) (fun i b lw hi' hb q0 q2 q4 q5 q6 hB => ?_) (h_n S o) 0 0 lv1 (by omega) (by omega) ⟨fun c => by omega, fun ⟨j, c, _⟩ => by omega⟩ a0 a2 a4 a5 a6
      clear w2
      have hv := f5 i hi'
      have k0 := CI_vk h o i hol hi' (Or.inl k1)
      obtain ⟨ek, ek4, eka, _⟩ := vr_k hv k0
      have hob0 : ob (h_hi S o i) (h_lo S o i) ≠ 0 → lv S (ob (h_hi S o i) (h_lo S o i)) := fun c => by
        have hen : h_ent S o i ∈ tgs S o := List.mem_cons_of_mem _ (List.mem_cons_of_mem _ (seqN_in (Nat.zero_le _) (by omega)))
        exact (mHS_cl h.1 o hol.1 hol.2.1 hol.2.2 _ hen).resolve_left c
      have heq := ent_eq h hX (i := 1) (by omega) hv k0 hob0
      rw [e1, eka] at heq
      obtain ⟨y1, y0⟩ := rEq_T (d := d + 4) (xa := sL Sr v4 i) (xb := sL Sr v5 i) (show topC (x :: r) + offC (x :: r) - 2 < 20480 by omega) eax ex4 ek4
      obtain ⟨o1', o2'⟩ := orI b hb
      by_cases hM : h_hi S o i = sL S 47 (topC (x :: r) - 1 - 1) ∧ h_lo S o i = sL S 48 (topC (x :: r) - 1 - 1)
      · exact rBiL_5 (d := d + 5) q0 q2 q4 q5 q6 (by omega) (by omega) t108 tS f1 (by omega) hi' f0' (by omega) (by omega) r4 s2 s8 (by omega) eka (by omega) r6 s4 s8 (by omega) r7 s5 s8 (by omega) (y1 (heq.mp hM)) (fun lv1 a0 a2 a4 a5 a6 => hB lv1 1 (by omega) ⟨fun _ => Or.inr hM, fun _ => rfl⟩ a0 a2 (by rw [a4, o2']) a5 a6)
      · exact rBiL_6 (d := d + 5) q0 q2 q4 q5 q6 (by omega) (by omega) t108 tS f1 (by omega) hi' f0' (by omega) (by omega) r4 s2 s8 (by omega) eka (by omega) r6 s4 s8 (by omega) r7 s5 s8 (by omega) (y0 (fun c => hM (heq.mpr c))) (fun lv1 a0 a2 a4 a5 a6 => hB lv1 b hb ⟨fun c => Or.inl c, fun c => c.resolve_right hM⟩ a0 a2 (by rw [a4, o1']) a5 a6)
end
