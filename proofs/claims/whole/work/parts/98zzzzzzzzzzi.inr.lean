/-! DEEDS ON BOTH SIDES: is a value in a list or a dict -/
section
variable {P : Nat → Prop} {T : cS} {gT : Nat} {Q : Nat → Prop} {β : Nat → Nat} {F : Nat → Nat → Nat → Prop} {loc par : Nat → Nat → Nat} {ty : Nat → Nat × Nat} {G : Nat → Nat → Nat → Nat × Nat × LL → Prop} {D D' K : List Nat} {z nn g0 g1 g3 g4 g5 gn d v o t k e n m ob_ kb vb v2 v3 v4 v5 v6 v7 xx : Nat} {tq : Nat → Nat × Nat} {C r : List Lv} {x : Lv} {g : Nat → Nat} {Sc Sr S S' X W W0 : cS} {hi lo a b kh kl xh xl : Int64} {kd : Int32} {M : Nat → Prop}
def inQ (S : cS) (o : Nat) (xh xl : Int64) (q : Option Nat) : Prop :=
  (h_kd S o ≠ 1 ∧ h_kd S o ≠ 2 ∧ q = none) ∨ (h_kd S o = 2 ∧ (c_kind xh ≠ nI 2 ∧ c_kind xh ≠ nI 3) ∧ q = none) ∨
  (h_kd S o = 2 ∧ (c_kind xh = nI 2 ∨ c_kind xh = nI 3) ∧ ∃ w, w ≤ 1 ∧ q = some w ∧ (w = 1 ↔ ∃ j, j < h_n S o ∧ (h_kh S o j = xh ∧ h_kl S o j = xl))) ∨
  (h_kd S o = 1 ∧ ∃ w, w ≤ 1 ∧ q = some w ∧ (w = 1 ↔ ∃ j, j < h_n S o ∧ (h_hi S o j = xh ∧ h_lo S o j = xl)))
/-- the class's loop over a list -/
theorem inL_C {w : Nat} (hl : lv S o) (hok : h_ok S o) (hn : h_n S o = n) (hn3 : n ≤ 300) (ho : o ≤ 1500) (hw : w ≤ 1) (hwe : w = 1 ↔ ∃ j, j < n ∧ (h_hi S o j = xh ∧ h_lo S o j = xl)) (hg : Ans (d + 12) 148 [.ref 46, .int (nI 2), .long 2305843009213693952, .long (lN w)] S (some (.int (nI 0))) S') : ∀ (k i : Nat) (lv : sm_L), i + k = n → (∀ j, j < i → ¬ (h_hi S o j = xh ∧ h_lo S o j = xl)) → sm_get lv 0 = some (.ref 53) → sm_get lv 1 = some (.int (nI o)) → sm_get lv 2 = some (.long xh) → sm_get lv 4 = some (.long xl) → sm_get lv 6 = some (.int (nI 0)) → sm_get lv 7 = some (.int (nI n)) → sm_get lv 8 = some (.int (nI i)) → Bod (d + 12) 204 101 lv [] S (some (.int (nI 0))) S' := by
  intro k
  induction k with
  | zero =>
    intro i lv hk hno q0 q1 q2 q4 q6 q7 q8
    have : w = 0 := by
      rcases Nat.lt_or_ge w 1 with c | c
      · omega
      · obtain ⟨j, j1, j2⟩ := hwe.mp (by omega)
        exact absurd j2 (hno j (by omega))
    subst this
    exact mInL_1 (d := d + 4) q0 q1 q2 q4 q6 q7 q8 (by omega) (by omega) (by omega) (by omega) hg
  | succ k ih =>
    intro i lv hk hno q0 q1 q2 q4 q6 q7 q8
    obtain ⟨e1, e2⟩ := ent_C (d := d + 9) hl hok (show i < h_n S o by omega)
    by_cases c1 : h_hi S o i = xh
    · by_cases c2 : h_lo S o i = xl
      · have : w = 1 := hwe.mpr ⟨i, by omega, c1, c2⟩
        subst this
        refine mInL_4 (d := d + 4) q0 q1 q2 q4 q6 q7 q8 (by omega) (by omega) (by omega) (by omega) e1 (by rw [c1]; exact lgne_F) e2 (by rw [c2]; exact lgne_F) (fun lv1 a0 a1 a2 a4 a6 a7 a8 => ?_)
        by_cases c : i + 1 < n
        · exact mInE_2 (d := d + 4) a0 a1 a2 a4 a6 a7 a8 (by omega) (by omega) (by omega) c hg
        · exact mInE_1 (d := d + 4) a0 a1 a2 a4 a6 a7 a8 (by omega) (by omega) (by omega) (by omega) hg
      · refine mInL_3 (d := d + 4) q0 q1 q2 q4 q6 q7 q8 (by omega) (by omega) (by omega) (by omega) e1 (by rw [c1]; exact lgne_F) e2 (lgne_T c2) (fun lv1 a0 a1 a2 a4 a6 a7 a8 => ih (i + 1) lv1 (by omega) (fun j hj => ?_) a0 a1 a2 a4 a6 a7 a8)
        by_cases c : j = i
        · rw [c]; exact fun c3 => c2 c3.2
        · exact hno j (by omega)
    · refine mInL_2 (d := d + 4) q0 q1 q2 q4 q6 q7 q8 (by omega) (by omega) (by omega) (by omega) e1 (lgne_T c1) (fun lv1 a0 a1 a2 a4 a6 a7 a8 => ih (i + 1) lv1 (by omega) (fun j hj => ?_) a0 a1 a2 a4 a6 a7 a8)
      by_cases c : j = i
      · rw [c]; exact fun c3 => c1 c3.1
      · exact hno j (by omega)
theorem w_ex (p : Prop) : ∃ w : Nat, w ≤ 1 ∧ (w = 1 ↔ p) := by
  by_cases h : p
  · exact ⟨1, by omega, fun _ => h, fun _ => rfl⟩
  · exact ⟨0, by omega, fun c => by omega, fun c => absurd c h⟩
theorem kind_C (h : CI F loc par ty G tq (x :: r) S) (ho2 : o ≤ 1500) (hol : o = 0 ∨ lv S o) : h_kd S o ≤ 7 ∧ Ans (d + 11) 138 [.ref 2, .int (nI o)] S (some (.int (nI (h_kd S o)))) S := by
  by_cases e0 : o = 0
  · have z0 := CI_z0 h
    have : h_kd S o = 0 := by
      unfold h_kd
      rw [e0, z0]
      rfl
    rw [this, e0]
    exact ⟨by omega, kindAt_0 (d := d + 9)⟩
  · have hl := hol.resolve_left e0
    obtain ⟨kd, zz, k7, z3, k3, k10, hkd, hzz, _⟩ := kdz (mHS_ok h.1 o hl.1 hl.2.1)
    have ck := kindAt_T (d := d + 9) (S := S) (k := o) hl.1 hl.2.1
    rw [k3] at ck
    rw [hkd]
    exact ⟨k7, ck⟩
theorem in_C (h : CI F loc par ty G tq (x :: r) S) (h2 : 2 ≤ vH x) : ∃ o q, o ≤ 1500 ∧ c_obj (sL S 47 (topC (x :: r) - 1 - 0)) (sL S 48 (topC (x :: r) - 1 - 0)) = nI o ∧ (o = 0 ∨ lv S o) ∧ inQ S o (sL S 47 (topC (x :: r) - 1 - 1)) (sL S 48 (topC (x :: r) - 1 - 1)) q ∧ (q = none → Ans (d + 13) 204 [.ref 53] S (some (.int (nI 2))) S) ∧ ∀ w S', q = some w → Ans (d + 12) 148 [.ref 46, .int (nI 2), .long 2305843009213693952, .long (lN w)] S (some (.int (nI 0))) S' → Ans (d + 13) 204 [.ref 53] S (some (.int (nI 0))) S' := by
  have m204 := ml_204
  obtain ⟨l1, l2, l3, l4, l5⟩ := CI_len h
  obtain ⟨o, o1, o2, o3⟩ := mHS_o h.1 (i := topC (x :: r) - 1 - 0) (by omega)
  have q1 := object_n (d := d + 9) (b := 0) l3 (by omega) (by omega) o2
  have q2 := hi_ev (d := d + 10) (b := 1) l3 (by omega) (by omega)
  have q3 := lo_ev (d := d + 10) (b := 1) l3 (by omega) (by omega)
  obtain ⟨k7, ck⟩ := kind_C (d := d + 1) h o1 o3
  have go : ∀ {e : Int32} {S'}, Bod (d + 12) 204 0 [(0, .ref 53)] [] S (some (.int e)) S' → Ans (d + 13) 204 [.ref 53] S (some (.int e)) S' := fun h => Ans.of (by rw [m204]; exact Nat.le_of_ble_eq_true rfl) (Bod.lv (by rfl) h)
  have hlv : h_kd S o ≠ 0 → lv S o := fun hc => o3.resolve_left (fun c => hc (by
    unfold h_kd
    rw [c, CI_z0 h]
    rfl))
  by_cases k2 : h_kd S o = 2
  · have hl := hlv (by omega)
    have hok := mHS_ok h.1 o hl.1 hl.2.1
    have hn3 := h_n_le hok
    obtain ⟨y1, y0⟩ := isKey_T (d := d + 3) (S := S) (h := sL S 47 (topC (x :: r) - 1 - 1))
    by_cases ci : c_kind (sL S 47 (topC (x :: r) - 1 - 1)) = nI 2 ∨ c_kind (sL S 47 (topC (x :: r) - 1 - 1)) = nI 3
    · obtain ⟨f1, f0⟩ := find_C (d := d + 10) (kh := sL S 47 (topC (x :: r) - 1 - 1)) (kl := sL S 48 (topC (x :: r) - 1 - 1)) hl hok (by rw [k2]; rfl)
      obtain ⟨w, w1, w2⟩ := w_ex (∃ j, j < h_n S o ∧ (h_kh S o j = sL S 47 (topC (x :: r) - 1 - 1) ∧ h_kl S o j = sL S 48 (topC (x :: r) - 1 - 1)))
      refine ⟨o, some w, o1, o2, o3, Or.inr (Or.inr (Or.inl ⟨k2, ci, w, w1, rfl, w2⟩)), (fun c => by cases c), fun w' S' hw hg => ?_⟩
      injection hw with hw
      subst hw
      by_cases hex : ∃ j, j < h_n S o ∧ (h_kh S o j = sL S 47 (topC (x :: r) - 1 - 1) ∧ h_kl S o j = sL S 48 (topC (x :: r) - 1 - 1))
      · obtain ⟨e, e1, e2, e3⟩ := least hex
        have : w = 1 := w2.mpr hex
        subst this
        exact go (mIn_4 (d := d + 4) (by omega) q1 q2 q3 (by omega) ck k2 (y1 ci) (f1 e e1 e2 e3) (lcC_i (by omega)).2 hg)
      · have hno : ∀ j, j < h_n S o → ¬ (h_kh S o j = sL S 47 (topC (x :: r) - 1 - 1) ∧ h_kl S o j = sL S 48 (topC (x :: r) - 1 - 1)) := fun j hj c => hex ⟨j, hj, c⟩
        have : w = 0 := by
          rcases Nat.lt_or_ge w 1 with c | c
          · omega
          · exact absurd (w2.mp (by omega)) hex
        subst this
        exact go (mIn_3 (d := d + 4) (by omega) q1 q2 q3 (by omega) ck k2 (y1 ci) (f0 hno) (by decide) hg)
    · have cn : c_kind (sL S 47 (topC (x :: r) - 1 - 1)) ≠ nI 2 ∧ c_kind (sL S 47 (topC (x :: r) - 1 - 1)) ≠ nI 3 := ⟨fun c => ci (Or.inl c), fun c => ci (Or.inr c)⟩
      exact ⟨o, none, o1, o2, o3, Or.inr (Or.inl ⟨k2, cn, rfl⟩), fun _ => go (mIn_5 (d := d + 4) (by omega) q1 q2 q3 (by omega) ck k2 (y0 cn)), fun w' S' hw => by cases hw⟩
  · by_cases k1 : h_kd S o = 1
    · have hl := hlv (by omega)
      have hok := mHS_ok h.1 o hl.1 hl.2.1
      have hn3 := h_n_le hok
      obtain ⟨w, w1, w2⟩ := w_ex (∃ j, j < h_n S o ∧ (h_hi S o j = sL S 47 (topC (x :: r) - 1 - 1) ∧ h_lo S o j = sL S 48 (topC (x :: r) - 1 - 1)))
      refine ⟨o, some w, o1, o2, o3, Or.inr (Or.inr (Or.inr ⟨k1, w, w1, rfl, w2⟩)), (fun c => by cases c), fun w' S' hw hg => ?_⟩
      injection hw with hw
      subst hw
      have cz := sizeAt_T (d := d + 10) (S := S) (k := o) hl.1 hl.2.1
      have ez : sA S 10 o = nI (h_n S o) := by
        obtain ⟨kd', zz, _, _, k3', k10, hkd', hzz, _⟩ := kdz hok
        rw [k10]
        unfold h_n
        rw [hkd', hzz, show kd' = 1 by omega]
        rfl
      rw [ez] at cz
      exact go (mIn_2 (d := d + 4) (by omega) q1 q2 q3 (by omega) ck k2 (by omega) ck k1 (by omega) cz (fun lv1 a0 a1 a2 a4 a6 a7 a8 => inL_C hl hok rfl hn3 o1 w1 w2 hg (h_n S o) 0 lv1 (by omega) (fun j hj => by omega) a0 a1 a2 a4 a6 a7 a8))
    · exact ⟨o, none, o1, o2, o3, Or.inl ⟨k1, k2, rfl⟩, fun _ => go (mIn_1 (d := d + 4) (by omega) q1 q2 q3 (by omega) ck k2 (by omega) ck k1), fun w' S' hw => by cases hw⟩
end
