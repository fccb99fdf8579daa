/-! DEEDS ON BOTH SIDES: where an item or a key is -/
section
variable {P : Nat → Prop} {T : cS} {gT : Nat} {Q : Nat → Prop} {β : Nat → Nat} {F : Nat → Nat → Nat → Prop} {loc par : Nat → Nat → Nat} {ty : Nat → Nat × Nat} {G : Nat → Nat → Nat → Nat × Nat × LL → Prop} {D K : List Nat} {z nn g0 g1 g3 g4 g5 gn d d' v o t tp i ob_ kb : Nat} {tq : Nat → Nat × Nat} {C r : List Lv} {x : Lv} {s' : Nat × Nat × LL} {Sc Sr S S' W : cS} {hi lo kh kl a b w : Int64} {kd : Int32}
def lcC (q : Sum Nat Nat) : Int32 := match q with
  | .inl e => -(nI e)
  | .inr i => nI i
def lcV (q : Sum Nat Nat) : Int32 := match q with
  | .inl _ => Int32.ofInt (-1)
  | .inr i => nI i
def lcW (q : Sum Nat Nat) (S : cS) : cS := match q with
  | .inl e => wI 6164 (nI e) S
  | .inr _ => S
/-- the object o, the key hi, lo: an entry or an error -/
def lcQ (S : cS) (o : Nat) (hi lo : Int64) (q : Sum Nat Nat) : Prop :=
    ((h_kd S o ≠ 1 ∧ h_kd S o ≠ 2 ∧ q = .inl 2) ∨
     (h_kd S o = 1 ∧ c_kind hi ≠ nI 2 ∧ q = .inl 2) ∨
     (h_kd S o = 1 ∧ c_kind hi = nI 2 ∧ q = (match ixR lo (h_n S o) with | some i => .inr i | none => .inl 3)) ∨
     (h_kd S o = 2 ∧ c_kind hi ≠ nI 2 ∧ c_kind hi ≠ nI 3 ∧ q = .inl 2) ∨
     (h_kd S o = 2 ∧ (c_kind hi = nI 2 ∨ c_kind hi = nI 3) ∧ q = .inl 4 ∧ ∀ j, j < h_n S o → ¬ (h_kh S o j = hi ∧ h_kl S o j = lo)) ∨
     (h_kd S o = 2 ∧ (c_kind hi = nI 2 ∨ c_kind hi = nI 3) ∧ ∃ e, e < h_n S o ∧ q = .inr e ∧ (h_kh S o e = hi ∧ h_kl S o e = lo) ∧ ∀ j, j < e → ¬ (h_kh S o j = hi ∧ h_kl S o j = lo)))
/-- the object at ob_, the key at kb: an entry or an error -/
def lcR (S : cS) (t : Nat) (ob_ kb : Nat) (q : Sum Nat Nat) : Prop :=
  ∃ o, o ≤ 1500 ∧ c_obj (sL S 47 (t - 1 - ob_)) (sL S 48 (t - 1 - ob_)) = nI o ∧ (o = 0 ∨ lv S o) ∧ lcQ S o (sL S 47 (t - 1 - kb)) (sL S 48 (t - 1 - kb)) q
theorem isKey_T {h : Int64} : ((c_kind h = nI 2 ∨ c_kind h = nI 3) → Ans (d + 9) 205 [.long h] S (some (.int 1)) S) ∧ ((c_kind h ≠ nI 2 ∧ c_kind h ≠ nI 3) → Ans (d + 9) 205 [.long h] S (some (.int 0)) S) := by
  have m := ml_205
  have go : ∀ {v : Option Value}, Bod (d + 8) 205 0 [(0, .long h)] [] S v S → Ans (d + 9) 205 [.long h] S v S := fun h => Ans.of (by rw [m]; exact Nat.le_of_ble_eq_true rfl) (Bod.lv (by rfl) h)
  have q := kindOf_ev (d := d + 7) (S := S) (hi := h)
  refine ⟨fun c => ?_, fun c => go (mIk_3 q c.1 q c.2)⟩
  by_cases c2 : c_kind h = nI 2
  · exact go (mIk_1 q c2)
  · exact go (mIk_2 q c2 q (c.resolve_left c2))
theorem loc_C (h : CI F loc par ty G tq (x :: r) S) (h1 : ob_ < vH x) (h2 : kb < vH x) : ∃ q, lcR S (topC (x :: r)) ob_ kb q ∧ Ans (d + 12) 210 [.ref 53, .int (nI ob_), .int (nI kb)] S (some (.int (lcC q))) S := by
  have m := ml_210
  obtain ⟨l1, l2, l3, l4, l5⟩ := CI_len h
  obtain ⟨o, o1, o2, o3⟩ := mHS_o h.1 (i := topC (x :: r) - 1 - ob_) (by omega)
  have q1 := object_n (d := d + 8) (b := ob_) l3 (by omega) (by omega) o2
  have q2 := hi_ev (d := d + 9) (b := kb) l3 (by omega) (by omega)
  have q3 := lo_ev (d := d + 9) (b := kb) l3 (by omega) (by omega)
  have qk := kindOf_ev (d := d + 10) (S := S) (hi := sL S 47 (topC (x :: r) - 1 - kb))
  have go : ∀ {v : Int32}, Bod (d + 11) 210 0 [(0, .ref 53), (1, .int (nI ob_)), (2, .int (nI kb))] [] S (some (.int v)) S → Ans (d + 12) 210 [.ref 53, .int (nI ob_), .int (nI kb)] S (some (.int v)) S := fun h => Ans.of (by rw [m]; exact Nat.le_of_ble_eq_true rfl) (Bod.lv (by rfl) h)
  -- its kind
  have hkd : ∃ kd, kd ≤ 7 ∧ h_kd S o = kd ∧ Ans (d + 11) 138 [.ref 2, .int (nI o)] S (some (.int (nI kd))) S ∧ (kd ≠ 0 → lv S o) := by
    by_cases e0 : o = 0
    · obtain ⟨_, _, _, _, _, _, _, _, _, _, z0⟩ := h.1.1.2.1
      refine ⟨0, by omega, ?_, by rw [e0]; exact kindAt_0 (d := d + 9), fun c => absurd rfl c⟩
      unfold h_kd
      rw [e0, z0]
      rfl
    · have hl := o3.resolve_left e0
      obtain ⟨kd, zz, k7, z3, k3, k10, hkd, hzz, _⟩ := kdz (mHS_ok h.1 o hl.1 hl.2.1)
      have ck := kindAt_T (d := d + 9) (S := S) (k := o) hl.1 hl.2.1
      rw [k3] at ck
      exact ⟨kd, k7, hkd, ck, fun _ => hl⟩
  obtain ⟨kd, k7, ek, ck, hlv⟩ := hkd
  by_cases k1 : kd = 1
  · have hl := hlv (by omega)
    by_cases ci : c_kind (sL S 47 (topC (x :: r) - 1 - kb)) = nI 2
    · refine ⟨_, ⟨o, o1, o2, o3, Or.inr (Or.inr (Or.inl ⟨by omega, ci, rfl⟩))⟩, ?_⟩
      have hok := mHS_ok h.1 o hl.1 hl.2.1
      have hn3 := h_n_le hok
      have cz := sizeAt_T (d := d + 9) (S := S) (k := o) hl.1 hl.2.1
      have ez : sA S 10 o = nI (h_n S o) := by
        obtain ⟨kd', zz, _, _, k3', k10, hkd', hzz, _⟩ := kdz hok
        rw [k10]
        unfold h_n
        rw [hkd', hzz, show kd' = 1 by omega]
        rfl
      rw [ez] at cz
      have := mLo_5 (d := d + 3) (by omega) (by omega) (by omega) q1 q2 q3 (by omega) ck k1 qk ci (by omega) cz (en_C (d := d + 2) hn3)
      have ee : (match ixR (sL S 48 (topC (x :: r) - 1 - kb)) (h_n S o) with | some i => nI i | none => (Int8.ofInt (-3)).toInt32) = lcC (match ixR (sL S 48 (topC (x :: r) - 1 - kb)) (h_n S o) with | some i => .inr i | none => .inl 3) := by
        cases ixR (sL S 48 (topC (x :: r) - 1 - kb)) (h_n S o) with
        | some i => rfl
        | none => decide
      rw [← ee]
      exact go this
    · exact ⟨.inl 2, ⟨o, o1, o2, o3, Or.inr (Or.inl ⟨by omega, ci, rfl⟩)⟩, go (mLo_6 (d := d + 3) (by omega) (by omega) (by omega) q1 q2 q3 (by omega) ck k1 qk ci)⟩
  by_cases k2 : kd = 2
  · have hl := hlv (by omega)
    have hok := mHS_ok h.1 o hl.1 hl.2.1
    obtain ⟨y1, y0⟩ := isKey_T (d := d + 2) (S := S) (h := sL S 47 (topC (x :: r) - 1 - kb))
    by_cases ci : c_kind (sL S 47 (topC (x :: r) - 1 - kb)) = nI 2 ∨ c_kind (sL S 47 (topC (x :: r) - 1 - kb)) = nI 3
    · obtain ⟨f1, f0⟩ := find_C (d := d + 9) (kh := sL S 47 (topC (x :: r) - 1 - kb)) (kl := sL S 48 (topC (x :: r) - 1 - kb)) hl hok (by rw [ek, k2]; rfl)
      by_cases hex : ∃ j, j < h_n S o ∧ (h_kh S o j = sL S 47 (topC (x :: r) - 1 - kb) ∧ h_kl S o j = sL S 48 (topC (x :: r) - 1 - kb))
      · obtain ⟨e, e1, e2, e3⟩ := least hex
        have hn3 := h_n_le hok
        exact ⟨.inr e, ⟨o, o1, o2, o3, Or.inr (Or.inr (Or.inr (Or.inr (Or.inr ⟨by omega, ci, e, e1, rfl, e2, e3⟩))))⟩, go (mLo_2 (d := d + 3) (by omega) (by omega) (by omega) q1 q2 q3 (by omega) ck k1 (by omega) ck k2 (y1 ci) (f1 e e1 e2 e3) (k1_ge_T e rfl (by omega)))⟩
      · have hno : ∀ j, j < h_n S o → ¬ (h_kh S o j = sL S 47 (topC (x :: r) - 1 - kb) ∧ h_kl S o j = sL S 48 (topC (x :: r) - 1 - kb)) := fun j hj c => hex ⟨j, hj, c⟩
        exact ⟨.inl 4, ⟨o, o1, o2, o3, Or.inr (Or.inr (Or.inr (Or.inr (Or.inl ⟨by omega, ci, rfl, hno⟩))))⟩, go (mLo_3 (d := d + 3) (by omega) (by omega) (by omega) q1 q2 q3 (by omega) ck k1 (by omega) ck k2 (y1 ci) (f0 hno) (by decide))⟩
    · have cn : c_kind (sL S 47 (topC (x :: r) - 1 - kb)) ≠ nI 2 ∧ c_kind (sL S 47 (topC (x :: r) - 1 - kb)) ≠ nI 3 := ⟨fun c => ci (Or.inl c), fun c => ci (Or.inr c)⟩
      exact ⟨.inl 2, ⟨o, o1, o2, o3, Or.inr (Or.inr (Or.inr (Or.inl ⟨by omega, cn.1, cn.2, rfl⟩)))⟩, go (mLo_4 (d := d + 3) (by omega) (by omega) (by omega) q1 q2 q3 (by omega) ck k1 (by omega) ck k2 (y0 cn))⟩
  · exact ⟨.inl 2, ⟨o, o1, o2, o3, Or.inl ⟨by omega, by omega, rfl⟩⟩, go (mLo_1 (d := d + 3) (by omega) (by omega) (by omega) q1 q2 q3 (by omega) ck k1 (by omega) ck k2)⟩
theorem rerr_T (e : Nat) (he : e < 2 ^ 20) (S : cS) : Ans (d + 9) 411 [.ref 61, .int (nI e)] S (some (.int (Int32.ofInt (-1)))) (wI 6164 (nI e) S) := Ans.of (by rw [ml_411]; exact Nat.le_of_ble_eq_true rfl) (Bod.lv (by rfl) (rEr_1 he))
end
