/-! DEEDS ON BOTH SIDES: a dict of the values on the stack -/
section
variable {P : Nat → Prop} {T : cS} {gT : Nat} {Q : Nat → Prop} {β β' : Nat → Nat} {F : Nat → Nat → Nat → Prop} {loc par : Nat → Nat → Nat} {ty : Nat → Nat × Nat} {G : Nat → Nat → Nat → Nat × Nat × LL → Prop} {D D' K : List Nat} {z nn g0 g1 g3 g4 g5 gn d d' dr v o i k k0 e n nt m t tp tt r0 : Nat} {tq : Nat → Nat × Nat} {C r : List Lv} {x : Lv} {S S' S1 X W Sc Sr : cS} {f g : Nat → Nat} {hi lo kh kl a b : Int64} {kd rb : Int32}
/-- the key of pair i, told from above -/
def kyK (S : cS) (t i : Nat) : Prop := c_kind (sL S 47 (t - 1 - (2 * i + 1))) = nI 2 ∨ c_kind (sL S 47 (t - 1 - (2 * i + 1))) = nI 3
theorem nI_ge0 {e : Nat} (he : e < 2 ^ 31) : sm_c1 .lt (nI e) true false = false := by
  show (if nI e < 0 then true else false) = false
  rw [if_neg (nI_pos he)]
theorem kc_good (l3 : sI S 4603 = nI t) (ht : t ≤ 20480) (h2 : 2 * nt ≤ t) (hnt : nt ≤ 300) {vv : Option Value} {Sf : cS} (hc : ∀ lv, sm_get lv 0 = some (.ref 53) → sm_get lv 1 = some (.int (nI nt)) → Bod (d + 9) 224 33 lv [] S vv Sf) : ∀ rem i, i + rem = nt → (∀ j, i ≤ j → j < nt → kyK S t j) → ∀ lv, sm_get lv 0 = some (.ref 53) → sm_get lv 1 = some (.int (nI nt)) → sm_get lv 2 = some (.int (nI i)) → Bod (d + 9) 224 2 lv [] S vv Sf := by
  intro rem
  induction rem with
  | zero =>
    intro i hi _ lv q0 q1 q2
    exact mMdK_1 (d := d + 1) q0 q1 q2 (by omega) (by omega) (by omega) hc
  | succ rem ih =>
    intro i hi hk lv q0 q1 q2
    have qh := hi_ev (d := d + 7) (b := 2 * i + 1) l3 (by omega) (by omega)
    exact mMdK_2 (d := d + 1) q0 q1 q2 (by omega) (by omega) (by omega) qh ((isKey_T (d := d)).1 (hk i (Nat.le_refl _) (by omega))) (fun lv1 p0 p1 p2 => ih (i + 1) (by omega) (fun j h1 h2 => hk j (by omega) h2) lv1 p0 p1 p2)
theorem kc_bad (l3 : sI S 4603 = nI t) (ht : t ≤ 20480) (h2 : 2 * nt ≤ t) (hnt : nt ≤ 300) {j : Nat} (hj : j < nt) (hb : ¬ kyK S t j) : ∀ rem i, i + rem = j → (∀ q, i ≤ q → q < j → kyK S t q) → ∀ lv, sm_get lv 0 = some (.ref 53) → sm_get lv 1 = some (.int (nI nt)) → sm_get lv 2 = some (.int (nI i)) → Bod (d + 9) 224 2 lv [] S (some (.int (nI 2))) S := by
  intro rem
  induction rem with
  | zero =>
    intro i hi _ lv q0 q1 q2
    have e : i = j := by omega
    subst e
    have qh := hi_ev (d := d + 7) (b := 2 * i + 1) l3 (by omega) (by omega)
    exact mMdK_3 (d := d + 1) q0 q1 q2 (by omega) (by omega) (by omega) qh ((isKey_T (d := d)).2 ⟨fun c => hb (Or.inl c), fun c => hb (Or.inr c)⟩)
  | succ rem ih =>
    intro i hi hk lv q0 q1 q2
    have qh := hi_ev (d := d + 7) (b := 2 * i + 1) l3 (by omega) (by omega)
    exact mMdK_2 (d := d + 1) q0 q1 q2 (by omega) (by omega) (by omega) qh ((isKey_T (d := d)).1 (hk i (Nat.le_refl _) (by omega))) (fun lv1 p0 p1 p2 => ih (i + 1) (by omega) (fun q h1 h2 => hk q (by omega) h2) lv1 p0 p1 p2)
/-- is it a key: the reference -/
theorem rik (hk : k < 20480) (he : sA S 91 k = nI e) (h4 : e ≤ 4) : (e = 1 ∨ e = 2 → Ans (d + 9) 403 [.ref 61, .int (nI k)] S (some (.int (nI 1))) S) ∧ (¬ (e = 1 ∨ e = 2) → Ans (d + 9) 403 [.ref 61, .int (nI k)] S (some (.int (nI 0))) S) := by
  have m := ml_403
  constructor
  · intro h
    rcases h with h | h
    · exact Ans.of (by rw [m]; exact Nat.le_of_ble_eq_true rfl) (Bod.lv (by rfl) (rIk_1 (d := d) (by omega) hk he (by omega) h))
    · exact Ans.of (by rw [m]; exact Nat.le_of_ble_eq_true rfl) (Bod.lv (by rfl) (rIk_3 (d := d) (by omega) hk he (by omega) (by omega) h))
  · intro h
    exact Ans.of (by rw [m]; exact Nat.le_of_ble_eq_true rfl) (Bod.lv (by rfl) (rIk_2 (d := d) (by omega) hk he (by omega) (fun c => h (Or.inl c)) (fun c => h (Or.inr c))))
theorem kr_good (h51 : sI S 6151 = nI t) (ht : t < 20480) (h2 : 2 * nt ≤ t) (hnt : nt ≤ 300) {vv : Option Value} {Sf : cS} (hc : ∀ lv, sm_get lv 0 = some (.ref 61) → sm_get lv 1 = some (.int (nI nt)) → Bod (d + 10) 414 37 lv [] S vv Sf) : ∀ rem i, i + rem = nt → (∀ j, i ≤ j → j < nt → ∃ e, (e = 1 ∨ e = 2) ∧ sA S 91 (t - 2 * nt + 2 * j) = nI e) → ∀ lv, sm_get lv 0 = some (.ref 61) → sm_get lv 1 = some (.int (nI nt)) → sm_get lv 2 = some (.int (nI (t - 2 * nt + 2 * i))) → Bod (d + 10) 414 9 lv [] S vv Sf := by
  intro rem
  induction rem with
  | zero =>
    intro i hi _ lv q0 q1 q2
    exact rMdK_1 (d := d + 2) q0 q1 q2 (by omega) (by omega) h51 (by omega) (by omega) hc
  | succ rem ih =>
    intro i hi hk lv q0 q1 q2
    obtain ⟨e, e1, e2⟩ := hk i (Nat.le_refl _) (by omega)
    exact rMdK_2 (d := d + 2) q0 q1 q2 (by omega) (by omega) h51 (by omega) (by omega) ((rik (d := d + 1) (by omega) e2 (by omega)).1 e1) (fun lv1 p0 p1 p2 => ih (i + 1) (by omega) (fun j h1 h2 => hk j (by omega) h2) lv1 p0 p1 (by rw [p2]; exact congrArg _ (congrArg _ (congrArg _ (by omega)))))
theorem kr_bad (h51 : sI S 6151 = nI t) (ht : t < 20480) (h2 : 2 * nt ≤ t) (hnt : nt ≤ 300) {j : Nat} (hj : j < nt) (he : sA S 91 (t - 2 * nt + 2 * j) = nI e) (h4 : e ≤ 4) (hb : ¬ (e = 1 ∨ e = 2)) : ∀ rem i, i + rem = j → (∀ q, i ≤ q → q < j → ∃ e, (e = 1 ∨ e = 2) ∧ sA S 91 (t - 2 * nt + 2 * q) = nI e) → ∀ lv, sm_get lv 0 = some (.ref 61) → sm_get lv 1 = some (.int (nI nt)) → sm_get lv 2 = some (.int (nI (t - 2 * nt + 2 * i))) → Bod (d + 10) 414 9 lv [] S (some (.int 0)) (wI 6164 (nI 2) S) := by
  intro rem
  induction rem with
  | zero =>
    intro i hi _ lv q0 q1 q2
    have e' : i = j := by omega
    subst e'
    exact rMdK_3 (d := d + 2) q0 q1 q2 (by omega) (by omega) h51 (by omega) (by omega) ((rik (d := d + 1) (by omega) he h4).2 hb) (rfail_T (d := d + 1) 2 (by omega) S)
  | succ rem ih =>
    intro i hi hk lv q0 q1 q2
    obtain ⟨e', e1, e2⟩ := hk i (Nat.le_refl _) (by omega)
    exact rMdK_2 (d := d + 2) q0 q1 q2 (by omega) (by omega) h51 (by omega) (by omega) ((rik (d := d + 1) (by omega) e2 (by omega)).1 e1) (fun lv1 p0 p1 p2 => ih (i + 1) (by omega) (fun q h1 h2 => hk q (by omega) h2) lv1 p0 p1 (by rw [p2]; exact congrArg _ (congrArg _ (congrArg _ (by omega)))))
/-- all values of k lie on the stack -/
def onSt (X : cS) (k t : Nat) : Prop := ∀ i, i < h_n X k → ∃ p, p < t ∧ h_hi X k i = sL X 47 p ∧ h_lo X k i = sL X 48 p
theorem dl_loop (hl : lob (vL x) + 2 * nt ≤ vH x) (hnt : nt ≤ 100) (rem : Nat) : ∀ {X : cS}, CIk k F loc par ty G tq (x :: r) X → lv X k → h_kd X k = 2 → h_n X k + rem ≤ nt → rem ≤ nt → (∀ j, j < nt → kyK X (topC (x :: r)) j) → onSt X k (topC (x :: r)) → ∃ X', CIk k F loc par ty G tq (x :: r) X' ∧ lv X' k ∧ CFm X X' ∧ (∀ v Sf, (∀ lv1, sm_get lv1 0 = some (.ref 53) → sm_get lv1 1 = some (.int (nI nt)) → sm_get lv1 2 = some (.int (nI k)) → sm_get lv1 3 = some (.int (lI 0)) → Bod (d + 10) 224 53 lv1 [] X' v Sf) → ∀ lv, sm_get lv 0 = some (.ref 53) → sm_get lv 1 = some (.int (nI nt)) → sm_get lv 2 = some (.int (nI k)) → sm_get lv 3 = some (.int (lI rem)) → Bod (d + 10) 224 53 lv [] X v Sf) ∧ ∀ (P : Nat → Prop) (T : cS) (gT : Nat) (Q : Nat → Prop) (β : Nat → Nat) (D : List Nat) (z nn g0 g1 g3 g4 g5 gn : Nat) (Sr : cS), XR P T gT Q β F D z nn g0 g1 g3 g4 g5 gn tq (x :: r) X Sr → ∃ W, XR P T gT Q β F D z nn g0 g1 g3 g4 g5 gn tq (x :: r) X' W ∧ ∀ s, sQ Sr 86 (β k) = some s → ∀ v Sf, (∀ lv1, sm_get lv1 0 = some (.ref 61) → sm_get lv1 1 = some (.int (nI nt)) → sm_get lv1 2 = some (.int (nI (β k))) → Bod (dr + 10) 414 200 lv1 [] W v Sf) → ∀ lv, sm_get lv 0 = some (.ref 61) → sm_get lv 1 = some (.int (nI nt)) → sm_get lv 2 = some (.int (nI (β k))) → sm_get lv 3 = some (.ref s) → sm_get lv 4 = some (.int (nI (topC (x :: r) + offC (x :: r) - 2 * rem))) → Bod (dr + 10) 414 66 lv [] Sr v Sf := by
  induction rem with
  | zero =>
    intro X h hk k2 hn hle hkk hon
    obtain ⟨l1, l2, l3, l4, l5⟩ := CIk_len h
    have hoff := offC_le (C := x :: r)
    rw [List.length_cons] at hoff
    refine ⟨X, h, hk, CFm.refl X, fun v Sf hc lv q0 q1 q2 q3 => hc lv q0 q1 q2 q3, fun P T gT Q β D z nn g0 g1 g3 g4 g5 gn Sr hX => ⟨Sr, hX, fun s hs v Sf hc lv q0 q1 q2 q3 q4 => ?_⟩⟩
    obtain ⟨t, _, _, _, _, _, _, _, _, bt, t1, _, t108, _⟩ := HR_o hX.1 hk
    have es : s = t := Option.some.inj (hs.symm.trans t1)
    subst es
    exact rMdL_1 (zg := 0) (d := dr + 2) q0 q1 q2 q3 q4 (by omega) (by omega) (by omega) t108 hX.2.2.2.2.2.1.1 (by omega) (by omega) hc
  | succ rem ih =>
    intro X h hk k2 hn hle hkk hon
    obtain ⟨l1, l2, l3, l4, l5⟩ := CIk_len h
    have hoff := offC_le (C := x :: r)
    rw [List.length_cons] at hoff
    have hk2 := hk.2.1
    have hk1 := hk.1
    have hok := mHS_ok h.1 k hk.1 hk.2.1
    have hw4 : c_width (h_kd X k) = 4 := by rw [k2]; rfl
    have k3 : sA X 3 k ≠ nI 3 := fun c => by
      unfold h_kd at k2
      rw [c] at k2
      exact absurd k2 (by decide)
    have m2 : c_most (h_kd X k) = 100 := by rw [k2]; rfl
    obtain ⟨o, o1, o2, o3⟩ := mHS_o h.1 (i := topC (x :: r) - 1 - 2 * rem) (by omega)
    have e0 : c_kind (sL X 47 (topC (x :: r) - 1 - 2 * rem)) ≠ 0 ∧ c_kind (sL X 47 (topC (x :: r) - 1 - 2 * rem)) ≠ nI 5 := ⟨CIk_k h (by omega), CIk_5 h (by omega) (by omega)⟩
    have hky := hkk rem (by omega)
    have qh : ∀ b, b = 2 * rem + 1 → Ans (d + 10) 132 [.ref 46, .int (nI b)] X (some (.long (sL X 47 (topC (x :: r) - 1 - (2 * rem + 1))))) X := fun b hb => by rw [hb]; exact hi_ev (d := d + 8) (b := 2 * rem + 1) l3 (by omega) (by omega)
    have ql : ∀ b, b = 2 * rem + 1 → Ans (d + 10) 135 [.ref 46, .int (nI b)] X (some (.long (sL X 48 (topC (x :: r) - 1 - (2 * rem + 1))))) X := fun b hb => by rw [hb]; exact lo_ev (d := d + 8) (b := 2 * rem + 1) l3 (by omega) (by omega)
    have vh : ∀ b, b = 2 * rem → Ans (d + 10) 132 [.ref 46, .int (nI b)] X (some (.long (sL X 47 (topC (x :: r) - 1 - 2 * rem)))) X := fun b hb => by rw [hb]; exact hi_ev (d := d + 8) (b := 2 * rem) l3 (by omega) (by omega)
    have vl : ∀ b, b = 2 * rem → Ans (d + 10) 135 [.ref 46, .int (nI b)] X (some (.long (sL X 48 (topC (x :: r) - 1 - 2 * rem)))) X := fun b hb => by rw [hb]; exact lo_ev (d := d + 8) (b := 2 * rem) l3 (by omega) (by omega)
    obtain ⟨oe, hka, hfi⟩ := find_C2 hk hok hw4 (sL X 47 (topC (x :: r) - 1 - (2 * rem + 1))) (sL X 48 (topC (x :: r) - 1 - (2 * rem + 1)))
    -- what the reference reads
    have rd : ∀ {P T gT Q β D z nn g0 g1 g3 g4 g5 gn Sr}, XR P T gT Q β F D z nn g0 g1 g3 g4 g5 gn tq (x :: r) X Sr → ∃ ek ev, (ek = 1 ∨ ek = 2) ∧ ev ≤ 4 ∧ sA Sr 91 (topC (x :: r) + offC (x :: r) - 2 * (rem + 1)) = nI ek ∧ sA Sr 91 (topC (x :: r) + offC (x :: r) - 2 * (rem + 1) + 1) = nI ev ∧ vrel β (sL X 47 (topC (x :: r) - 1 - (2 * rem + 1))) (sL X 48 (topC (x :: r) - 1 - (2 * rem + 1))) (nI ek) (sL Sr 92 (topC (x :: r) + offC (x :: r) - 2 * (rem + 1))) (sL Sr 93 (topC (x :: r) + offC (x :: r) - 2 * (rem + 1))) ∧ vrel β (sL X 47 (topC (x :: r) - 1 - 2 * rem)) (sL X 48 (topC (x :: r) - 1 - 2 * rem)) (nI ev) (sL Sr 92 (topC (x :: r) + offC (x :: r) - 2 * (rem + 1) + 1)) (sL Sr 93 (topC (x :: r) + offC (x :: r) - 2 * (rem + 1) + 1)) := fun {P T gT Q β D z nn g0 g1 g3 g4 g5 gn Sr} hX => by
      have hv1 := XR_v hX (i := 2 * rem + 1) (by omega)
      have hv0 := XR_v hX (i := 2 * rem) (by omega)
      rw [show topC (x :: r) + offC (x :: r) - 1 - (2 * rem + 1) = topC (x :: r) + offC (x :: r) - 2 * (rem + 1) by omega] at hv1
      rw [show topC (x :: r) + offC (x :: r) - 1 - 2 * rem = topC (x :: r) + offC (x :: r) - 2 * (rem + 1) + 1 by omega] at hv0
      obtain ⟨ek, ek4, eka, ekc⟩ := vr_k hv1 (by rcases hky with c | c <;> rw [c] <;> decide)
      obtain ⟨ev, ev4, eva, _⟩ := vr_k hv0 e0.1
      have e12 : ek = 1 ∨ ek = 2 := by
        rcases hky with c | c
        · rw [c] at ekc; have := nI_j (by omega) (by omega) ekc; omega
        · rw [c] at ekc; have := nI_j (by omega) (by omega) ekc; omega
      exact ⟨ek, ev, e12, ev4, eka, eva, by rw [← eka]; exact hv1, by rw [← eva]; exact hv0⟩
    have fR : ∀ {P T gT Q β D z nn g0 g1 g3 g4 g5 gn Sr}, XR P T gT Q β F D z nn g0 g1 g3 g4 g5 gn tq (x :: r) X Sr → ∀ ek s, (ek = 1 ∨ ek = 2) → vrel β (sL X 47 (topC (x :: r) - 1 - (2 * rem + 1))) (sL X 48 (topC (x :: r) - 1 - (2 * rem + 1))) (nI ek) (sL Sr 92 (topC (x :: r) + offC (x :: r) - 2 * (rem + 1))) (sL Sr 93 (topC (x :: r) + offC (x :: r) - 2 * (rem + 1))) → sQ Sr 86 (β k) = some s → Ans (dr + 10) 399 [.ref s, .int (nI ek), .long (sL Sr 92 (topC (x :: r) + offC (x :: r) - 2 * (rem + 1))), .long (if ek = 1 then 0 else sL Sr 93 (topC (x :: r) + offC (x :: r) - 2 * (rem + 1)))] Sr (some (.int (fI oe))) Sr := fun {P T gT Q β D z nn g0 g1 g3 g4 g5 gn Sr} hX ek s e12 hvk hs => by
      obtain ⟨t, v2, v3, v4, v5, v6, v7, n, m, bt, t1, t2, t108, tS, wr, wd, wl, wj, f0, f1, fn, fv, f6, h87⟩ := HR_o hX.1 hk
      have es : s = t := Option.some.inj (hs.symm.trans t1)
      subst es
      obtain ⟨fm, f6⟩ := f6 hw4
      exact find_R1 (d := dr + 1) hka wr f1 fm wj (fun j hj => by
        have := f6 j hj
        rw [k2] at this
        exact key_iff this hvk rfl e12)
    cases oe with
    | none =>
      rcases appk_W (d := d + 6) (kh := sL X 47 (topC (x :: r) - 1 - (2 * rem + 1))) (kl := sL X 48 (topC (x :: r) - 1 - (2 * rem + 1))) h hk (Or.inr hw4) (by omega) o2 o3 e0 (fun _ => hky) with ⟨c, _⟩ | ⟨_, W, A, hM, hW, hst, hn', hk', hev, hv1, hv2, hek⟩
      · omega
      · have hkW : lv W k := (hM.2.2.2.2.2.1 k).mpr hk
        obtain ⟨X', i1, i2, i3, i4, i5⟩ := ih hW hkW (by omega) (by omega) (by omega) (fun j hj => by unfold kyK; rw [(hst _).1]; exact hkk j hj) (fun i hi => by
          by_cases c : i = h_n X k
          · refine ⟨topC (x :: r) - 1 - 2 * rem, by omega, ?_, ?_⟩
            · rw [c, hv1, (hst _).1]
            · rw [c, hv2, (hst _).2]
          · obtain ⟨p, p1, p2, p3⟩ := hon i (by omega)
            refine ⟨p, p1, ?_, ?_⟩
            · rw [(hev i (by omega)).1, (hst _).1]; exact p2
            · rw [(hev i (by omega)).2, (hst _).2]; exact p3)
        refine ⟨X', i1, i2, hM.2.1.trans i3, fun v Sf hc lv q0 q1 q2 q3 => ?_, fun P T gT Q β D z nn g0 g1 g3 g4 g5 gn Sr hX => ?_⟩
        · have e3 : lI (rem + 1) = nI rem := if_neg (by omega)
          rw [e3] at q3
          have hf : Ans (d + 10) 206 [.ref 2, .int (nI k), .long (sL X 47 (topC (x :: r) - 1 - (2 * rem + 1))), .long (sL X 48 (topC (x :: r) - 1 - (2 * rem + 1)))] X (some (.int (Int32.ofInt (-1)))) X := hfi (d + 8)
          cases rem with
          | zero => exact mMdM_1 (d := d + 2) q0 q1 q2 q3 (by omega) (by omega) (qh 1 (by omega)) (ql 1 (by omega)) hf (by decide) (vh 0 (by omega)) (vl 0 (by omega)) A (fun lv1 a0 a1 a2 a3 => i4 v Sf hc lv1 a0 a1 a2 a3)
          | succ rem => exact mMdL_1 (d := d + 2) q0 q1 q2 q3 (by omega) (by omega) (by omega) (qh _ (by omega)) (ql _ (by omega)) hf (by decide) (vh _ (by omega)) (vl _ (by omega)) A (fun lv1 a0 a1 a2 a3 => i4 v Sf hc lv1 a0 a1 a2 (by rw [a3]; exact congrArg _ (congrArg _ (if_neg (by omega)).symm)))
        · obtain ⟨ek, ev, e12, ev4, eka, eva, hvk, hvv⟩ := rd hX
          have hkey : keyR β Sr g0 g1 nn (h_kd X k) (sL X 47 (topC (x :: r) - 1 - (2 * rem + 1))) (sL X 48 (topC (x :: r) - 1 - (2 * rem + 1))) (nI ek) (sL Sr 92 (topC (x :: r) + offC (x :: r) - 2 * (rem + 1))) (if ek = 1 then 0 else sL Sr 93 (topC (x :: r) + offC (x :: r) - 2 * (rem + 1))) := by
            unfold keyR
            rw [if_pos k2]
            rcases e12 with c | c
            · subst c
              rw [if_pos rfl]
              refine ⟨?_, fun _ => rfl, Or.inl rfl⟩
              rcases hvk with ⟨_, _, y⟩ | ⟨_, _, y⟩ | ⟨y1, y2, y3⟩ | ⟨y, _⟩ | ⟨_, _, _, _, _, y, _⟩ | ⟨_, _, _, _, y, _⟩
              · exact absurd y (by decide)
              · exact absurd y (by decide)
              · exact Or.inr (Or.inr (Or.inl ⟨y1, y2, y3⟩))
              · exact absurd y (by decide)
              · exact absurd y (by decide)
              · exact absurd y (by decide)
            · rw [if_neg (by omega)]
              exact ⟨hvk, fun c2 => absurd (nI_j (by omega) (by omega) c2) (by omega), Or.inr (by rw [c])⟩
          obtain ⟨s', S4, S5, W5, s1, s2, ⟨N1, s3, s4, s5⟩, s6, A4, A5, A6, ⟨x91, x92, x93⟩, ⟨y91, y92, y93⟩, sq, h51', hX'⟩ := put_XRm (d := dr) (v := 0) hX h.2.2.2.2.1 hM hk k3 hw4 (by omega) (by omega) (fun i _ => hst i) hn' hk' hev hv1 hv2 hek hkey (by omega) hvv
          rw [Nat.sub_zero, Nat.sub_zero, List.map_nil, List.append_nil, wI_id (by rw [h51']; exact hX.2.2.2.2.2.1.1)] at hX'
          obtain ⟨W'', j1, j2⟩ := i5 P T gT Q β D z nn g0 g1 g3 g4 g5 gn W5 hX'
          refine ⟨W'', j1, fun s hs v Sf hc lv q0 q1 q2 q3 q4 => ?_⟩
          have es : s = s' := Option.some.inj (hs.symm.trans s1)
          subst es
          have hf := fR hX ek s e12 hvk hs
          have hb := (hX.1.ob hk).1
          have hcont : ∀ lv1, sm_get lv1 0 = some (.ref 61) → sm_get lv1 1 = some (.int (nI nt)) → sm_get lv1 2 = some (.int (nI (β k))) → sm_get lv1 3 = some (.ref s) → sm_get lv1 4 = some (.int (nI (topC (x :: r) + offC (x :: r) - 2 * (rem + 1) + 2))) → Bod (dr + 2 + 8) 414 66 lv1 [] W5 v Sf := fun lv1 a0 a1 a2 a3 a4 => j2 s (by rw [sq]; exact hs) v Sf hc lv1 a0 a1 a2 a3 (by rw [a4]; exact congrArg _ (congrArg _ (congrArg _ (by omega))))
          rcases e12 with c | c
          · subst c
            rw [if_pos rfl] at hf A5
            exact rMdL_5 (d := dr + 2) (e91 := 1) (e911 := 1) (e912 := ev) q0 q1 q2 q3 q4 (by omega) (by omega) (by omega) s2 hX.2.2.2.2.2.1.1 (by omega) (by omega) (by omega) eka (by omega) rfl hf s3 s3 s6 (by omega) A4 (by rw [x91]; exact eka) (by omega) (by rw [x92]; exact A5) s4 (by omega) (by rw [y91]; exact eva) (by omega) (by rw [y92, y93]; exact A6.up (by omega)) s5 hcont
          · subst c
            rw [if_neg (by omega)] at hf A5
            exact rMdL_3 (d := dr + 2) (e91 := 2) (e911 := 2) (e912 := ev) q0 q1 q2 q3 q4 (by omega) (by omega) (by omega) s2 hX.2.2.2.2.2.1.1 (by omega) (by omega) (by omega) eka (by omega) (by omega) hf s3 s3 s6 (by omega) A4 (by rw [x91]; exact eka) (by omega) (by rw [x92]; exact A5) s4 (by omega) (by rw [y91]; exact eva) (by omega) (by rw [y92, y93]; exact A6.up (by omega)) s5 hcont
    | some e =>
      obtain ⟨ha1, ha2, ha3⟩ := hka
      obtain ⟨X2, W, A, hM, hW, hst, hn', hk', hev, hek, hEW⟩ := setk_W (d := d + 4) h hk (Or.inr k2) ha1 (fun o' ho' h1500 => by
        obtain ⟨p, p1, p2, p3⟩ := hon e ha1
        rw [p2, p3] at ho'
        by_cases c : o' = 0
        · exact Or.inl c
        · exact Or.inr (by have := stE_pos p1 (ob_n ho' h1500); omega)) o2 o3 e0
      have hkW : lv W k := ⟨hk.1, hk.2.1, by rw [hEW.1, hM.2.2.2.2.2.2.2.1]; exact hk.2.2⟩
      have kdW : h_kd W k = 2 := by rw [(obE_kd hEW).1, hk']; exact k2
      have nW : h_n W k = h_n X k := by
        rw [← hn']
        unfold h_n
        rw [(obE_kd hEW).1, (obE_kd hEW).2]
      have hz : h_z X2 k = h_n X2 k := by
        unfold h_n
        rw [hk', k2, if_neg (by decide)]
      obtain ⟨X', i1, i2, i3, i4, i5⟩ := ih hW hkW kdW (by omega) (by omega) (fun j hj => by unfold kyK; rw [(hst _).1]; exact hkk j hj) (fun i hi => by
        have ent := obE_ent (e := i) hEW (by rw [hk', k2]; decide) (by omega)
        by_cases c : i = e
        · refine ⟨topC (x :: r) - 1 - 2 * rem, by omega, ?_, ?_⟩
          · rw [ent.1, (hev i (by omega)).1, if_pos c, (hst _).1]
          · rw [ent.2, (hev i (by omega)).2, if_pos c, (hst _).2]
        · obtain ⟨p, p1, p2, p3⟩ := hon i (by omega)
          refine ⟨p, p1, ?_, ?_⟩
          · rw [ent.1, (hev i (by omega)).1, if_neg c, (hst _).1]; exact p2
          · rw [ent.2, (hev i (by omega)).2, if_neg c, (hst _).2]; exact p3)
      refine ⟨X', i1, i2, hM.2.1.trans i3, fun v Sf hc lv q0 q1 q2 q3 => ?_, fun P T gT Q β D z nn g0 g1 g3 g4 g5 gn Sr hX => ?_⟩
      · have e3 : lI (rem + 1) = nI rem := if_neg (by omega)
        rw [e3] at q3
        have hf : Ans (d + 10) 206 [.ref 2, .int (nI k), .long (sL X 47 (topC (x :: r) - 1 - (2 * rem + 1))), .long (sL X 48 (topC (x :: r) - 1 - (2 * rem + 1)))] X (some (.int (nI e))) X := hfi (d + 8)
        have hlt : sm_c1 .lt (nI e) true false = false := nI_ge0 (by have := h_n_le hok; omega)
        cases rem with
        | zero => exact mMdM_3 (d := d + 2) q0 q1 q2 q3 (by omega) (by omega) (qh 1 (by omega)) (ql 1 (by omega)) hf hlt (vh 0 (by omega)) (vl 0 (by omega)) A (fun lv1 a0 a1 a2 a3 => i4 v Sf hc lv1 a0 a1 a2 a3)
        | succ rem => exact mMdL_3 (d := d + 2) q0 q1 q2 q3 (by omega) (by omega) (by omega) (qh _ (by omega)) (ql _ (by omega)) hf hlt (vh _ (by omega)) (vl _ (by omega)) A (fun lv1 a0 a1 a2 a3 => i4 v Sf hc lv1 a0 a1 a2 (by rw [a3]; exact congrArg _ (congrArg _ (if_neg (by omega)).symm)))
      · obtain ⟨ek, ev, e12, ev4, eka, eva, hvk, hvv⟩ := rd hX
        obtain ⟨s', W5, s1, s2, ⟨N1, s3⟩, A6, sq, h51', hX'⟩ := put_XRh (d := dr + 1) (v := 0) hX h.2.2.2.2.1 hM hk ha1 (by omega) (fun i _ => hst i) hn' hk' hev hek hvv
        rw [Nat.sub_zero, Nat.sub_zero, List.map_nil, List.append_nil, wI_id (by rw [h51']; exact hX.2.2.2.2.2.1.1)] at hX'
        obtain ⟨W'', j1, j2⟩ := i5 P T gT Q β D z nn g0 g1 g3 g4 g5 gn W5 hX'
        refine ⟨W'', j1, fun s hs v Sf hc lv q0 q1 q2 q3 q4 => ?_⟩
        have es : s = s' := Option.some.inj (hs.symm.trans s1)
        subst es
        have hf := fR hX ek s e12 hvk hs
        have hb := (hX.1.ob hk).1
        have he20 : e < 2 ^ 20 := by have := h_n_le hok; omega
        have hcont : ∀ lv1, sm_get lv1 0 = some (.ref 61) → sm_get lv1 1 = some (.int (nI nt)) → sm_get lv1 2 = some (.int (nI (β k))) → sm_get lv1 3 = some (.ref s) → sm_get lv1 4 = some (.int (nI (topC (x :: r) + offC (x :: r) - 2 * (rem + 1) + 2))) → Bod (dr + 2 + 8) 414 66 lv1 [] W5 v Sf := fun lv1 a0 a1 a2 a3 a4 => j2 s (by rw [sq]; exact hs) v Sf hc lv1 a0 a1 a2 a3 (by rw [a4]; exact congrArg _ (congrArg _ (congrArg _ (by omega))))
        rcases e12 with c | c
        · subst c
          rw [if_pos rfl] at hf
          exact rMdL_4 (d := dr + 2) (e91 := 1) (e911 := ev) q0 q1 q2 q3 q4 (by omega) (by omega) (by omega) s2 hX.2.2.2.2.2.1.1 (by omega) (by omega) (by omega) eka (by omega) rfl he20 hf s3 (by omega) eva (by omega) A6 s3 hcont
        · subst c
          rw [if_neg (by omega)] at hf
          exact rMdL_2 (d := dr + 2) (e91 := 2) (e911 := ev) q0 q1 q2 q3 q4 (by omega) (by omega) (by omega) s2 hX.2.2.2.2.2.1.1 (by omega) (by omega) (by omega) eka (by omega) (by omega) he20 hf s3 (by omega) eva (by omega) A6 s3 hcont
theorem dict_R (h : CI F loc par ty G tq (x :: r) S) (hl : lob (vL x) + 2 * nt ≤ vH x) (hnt : nt ≤ 100) (h6 : vH x - 2 * nt + 1 ≤ 600) : opR F loc par ty G tq (d + 16) 224 [.ref 53, .int (nI nt)] 414 [.ref 61, .int (nI nt)] x r (vH x - 2 * nt + 1, vU x, vL x) S := by
  have m224 := ml_224
  have m414 := ml_414
  obtain ⟨l1, l2, l3, l4, l5⟩ := CI_len h
  have hT := CI_T h
  have goC : ∀ {e : Int32} {S'}, Bod (d + 15) 224 0 [(0, .ref 53), (1, .int (nI nt))] [] S (some (.int e)) S' → Ans (d + 16) 224 [.ref 53, .int (nI nt)] S (some (.int e)) S' := fun hb => Ans.of (by rw [m224]; exact Nat.le_of_ble_eq_true rfl) (Bod.lv (by rfl) hb)
  have goR : ∀ {Sr : cS} {e : Int32} {W : cS}, Bod (d + 15) 414 0 [(0, .ref 61), (1, .int (nI nt))] [] Sr (some (.int e)) W → Ans (d + 16) 414 [.ref 61, .int (nI nt)] Sr (some (.int e)) W := fun hb => Ans.of (by rw [m414]; exact Nat.le_of_ble_eq_true rfl) (Bod.lv (by rfl) hb)
  have hk0 : ∀ i, i < 2 * nt → c_kind (sL S 47 (topC (x :: r) - 1 - i)) ≠ 0 := fun i hi => CI_k h (by omega)
  -- the kinds of the reference's keys
  have kds : ∀ {P T gT Q β D z nn g0 g1 g3 g4 g5 gn Sr}, XR P T gT Q β F D z nn g0 g1 g3 g4 g5 gn tq (x :: r) S Sr → ∀ j, j < nt → ∃ e, e ≤ 4 ∧ sA Sr 91 (topC (x :: r) + offC (x :: r) - 2 * nt + 2 * j) = nI e ∧ (kyK S (topC (x :: r)) (nt - 1 - j) ↔ (e = 1 ∨ e = 2)) := fun {P T gT Q β D z nn g0 g1 g3 g4 g5 gn Sr} hX j hj => by
    obtain ⟨e, e4, ea, ec⟩ := XR_k h hX (i := 2 * (nt - 1 - j) + 1) (by omega)
    refine ⟨e, e4, by rw [← ea]; congr 1; omega, ?_⟩
    unfold kyK
    rw [ec]
    constructor
    · rintro (c | c)
      · have := nI_j (by omega) (by omega) c; omega
      · have := nI_j (by omega) (by omega) c; omega
    · rintro (c | c)
      · left; rw [c]
      · right; rw [c]
  by_cases hall : ∀ j, j < nt → kyK S (topC (x :: r)) j
  · have rgood : ∀ {P T gT Q β D z nn g0 g1 g3 g4 g5 gn Sr}, XR P T gT Q β F D z nn g0 g1 g3 g4 g5 gn tq (x :: r) S Sr → ∀ {vv : Option Value} {Sf : cS}, (∀ lv, sm_get lv 0 = some (.ref 61) → sm_get lv 1 = some (.int (nI nt)) → Bod (d + 15) 414 37 lv [] Sr vv Sf) → Bod (d + 15) 414 0 [(0, .ref 61), (1, .int (nI nt))] [] Sr vv Sf := fun {P T gT Q β D z nn g0 g1 g3 g4 g5 gn Sr} hX {vv Sf} hc => rMd_1 (d := d + 7) (by omega) hX.2.2.2.2.2.1.1 (by omega) (by omega) (fun lv q0 q1 q2 => kr_good (d := d + 5) hX.2.2.2.2.2.1.1 (by omega) (by omega) (by omega) hc nt 0 (by omega) (fun j _ hj => by
      obtain ⟨e, _, e2, e3⟩ := kds hX j hj
      exact ⟨e, e3.mp (hall _ (by omega)), e2⟩) lv q0 q1 q2)
    have cgood : ∀ {vv : Option Value} {Sf : cS}, (∀ lv, sm_get lv 0 = some (.ref 53) → sm_get lv 1 = some (.int (nI nt)) → Bod (d + 15) 224 33 lv [] S vv Sf) → Bod (d + 15) 224 0 [(0, .ref 53), (1, .int (nI nt))] [] S vv Sf := fun hc => mMd_1 (d := d + 7) (by omega) (fun lv q0 q1 q2 => kc_good (d := d + 6) l3 (by omega) (by omega) (by omega) hc nt 0 (by omega) (fun j _ hj => hall j hj) lv q0 q1 q2)
    rcases new_K (d := d + 13) (dr := d + 5) (kd := 2) (Or.inr rfl) h with ⟨hf, A⟩ | ⟨_, k, X, A, hk, hlk, k2, kn, cf, ⟨s47, s48⟩, _, hR⟩
    · refine Or.inr ⟨8, S, by omega, goC (cgood (fun lv q0 q1 => ?_)), h, CFr.refl S, fun P T gT Q β D z nn g0 g1 g3 g4 g5 gn Sr hX => ?_⟩
      · cases nt with
        | zero => exact mMdZ_2 (d := d + 7) q0 q1 (by omega) A rfl
        | succ nt => exact mMdC_2 (d := d + 7) q0 q1 (by omega) (by omega) A rfl
      · obtain ⟨S1, D', b1, b2⟩ := (new_R (d := d + 5) (kd := nI 2) h hX).1 hf
        exact ⟨Q, β, D', nn, g0, g1, g3, g4, g5, gn, _, goR (rgood hX (fun lv q0 q1 => rMdC_2 (d := d + 7) q0 q1 (by omega) b1)), rIe _ _ _, XRe_I (XR_XRe b2 (CI_lob h)) (Or.inl rfl)⟩
    · have hk1 := hlk.1
      have hk2' := hlk.2.1
      obtain ⟨X', i1, i2, i3, i4, i5⟩ := dl_loop (d := d + 5) (dr := d + 5) hl hnt nt hk hlk k2 (by omega) (Nat.le_refl _) (fun j hj => by unfold kyK; rw [s47]; exact hall j hj) (fun i hi => by omega)
      obtain ⟨S', c1, c2, c3, c4⟩ := give_k (d := d + 6) (v := 2 * nt) (l2 := vL x) i1 i2 (Or.inl rfl) hl h6
      have c1' : Ans (d + 15) 148 [.ref 46, .int (nI (2 * nt)), .long ((4611686018427387904)), .long ((nI k).toInt64)] X' (some (.int (nI 0))) S' := by rw [nI_ll (by omega)]; exact c1
      have fin : ∀ lv1, sm_get lv1 0 = some (.ref 53) → sm_get lv1 1 = some (.int (nI nt)) → sm_get lv1 2 = some (.int (nI k)) → sm_get lv1 3 = some (.int (lI 0)) → Bod (d + 15) 224 53 lv1 [] X' (some (.int (nI 0))) S' := fun lv1 q0 q1 q2 q3 => mMdE_1 (d := d + 7) q0 q1 q2 q3 (by omega) (by omega) c1'
      refine Or.inl ⟨S', goC (cgood (fun lv q0 q1 => ?_)), fun p q => c2 p q, ((cf.trans i3).trans c3).wide, fun P T gT Q β D z nn g0 g1 g3 g4 g5 gn Sr hX => ?_⟩
      · cases nt with
        | zero => exact mMdZ_1 (d := d + 7) q0 q1 (by omega) A (by omega) (fun lv1 p0 p1 p2 p3 => i4 _ _ fin lv1 p0 p1 p2 p3)
        | succ nt => exact mMdC_1 (d := d + 7) q0 q1 (by omega) (by omega) A (by omega) (by omega) (fun lv1 p0 p1 p2 p3 => i4 _ _ fin lv1 p0 p1 p2 (by rw [p3]; exact congrArg _ (congrArg _ (if_neg (by omega)).symm)))
      · obtain ⟨β', D', W, hb, B, hX', _⟩ := hR P T gT Q β D z nn g0 g1 g3 g4 g5 gn Sr hX
        obtain ⟨W', hX2, j2⟩ := i5 P T gT Q β' D' z nn g0 g1 g3 g4 g5 gn W hX'
        obtain ⟨D2, hX3⟩ := c4 P T gT Q β' D' z nn g0 g1 g3 g4 g5 gn W' hX2
        obtain ⟨s, _, _, _, _, _, _, _, _, bt, t1, _, t108, _⟩ := HR_o hX'.1 hlk
        refine ⟨Q, β', D2, nn, g0, g1, g3, g4, g5, gn, _, goR (rgood hX (fun lv q0 q1 => ?_)), hX3⟩
        refine rMdC_1 (zg := 0) (d := d + 7) q0 q1 (by omega) hb B t108 t1 hX'.2.2.2.2.2.1.1 (by omega) (by omega) (fun lv1 p0 p1 p2 p3 p4 => j2 s t1 _ _ (fun lv2 u0 u1 u2 => ?_) lv1 p0 p1 p2 p3 p4)
        exact rMdE_1 (d := d + 7) u0 u1 u2 (by omega) (by omega) hX2.2.2.2.2.2.1.1 (by omega) (by omega) (by rw [nI_ll (by omega)]; exact rpsh_T (d := d + 6) (kd := nI 3) (xa := lN (β' k)) (xb := 0) (S := W') (by omega))
  · have hex : ∃ j, j < nt ∧ ¬ kyK S (topC (x :: r)) j := by
      by_cases c : ∃ j, j < nt ∧ ¬ kyK S (topC (x :: r)) j
      · exact c
      · exact absurd (fun j hj => by
          by_cases c2 : kyK S (topC (x :: r)) j
          · exact c2
          · exact absurd ⟨j, hj, c2⟩ c) hall
    obtain ⟨j, hj, hb, hlow⟩ := least hex
    refine opR_err (e := 2) h (by omega) (goC (mMd_1 (d := d + 7) (by omega) (fun lv q0 q1 q2 => kc_bad (d := d + 6) l3 (by omega) (by omega) (by omega) hj hb j 0 (by omega) (fun q _ hq => by
      by_cases c2 : kyK S (topC (x :: r)) q
      · exact c2
      · exact absurd c2 (hlow q hq)) lv q0 q1 q2))) (fun P T gT Q β D z nn g0 g1 g3 g4 g5 gn Sr hX => ?_)
    have hex2 : ∃ j, j < nt ∧ ¬ kyK S (topC (x :: r)) (nt - 1 - j) := ⟨nt - 1 - j, by omega, by rw [show nt - 1 - (nt - 1 - j) = j by omega]; exact hb⟩
    obtain ⟨j', hj', hb', hlow'⟩ := least hex2
    obtain ⟨e, e4, e2, e3⟩ := kds hX j' hj'
    exact goR (rMd_1 (d := d + 7) (by omega) hX.2.2.2.2.2.1.1 (by omega) (by omega) (fun lv q0 q1 q2 => kr_bad (d := d + 5) hX.2.2.2.2.2.1.1 (by omega) (by omega) (by omega) hj' e2 e4 (fun c => hb' (e3.mpr c)) j' 0 (by omega) (fun q _ hq => by
      obtain ⟨e', _, e2', e3'⟩ := kds hX q (by omega)
      refine ⟨e', e3'.mp ?_, e2'⟩
      by_cases c2 : kyK S (topC (x :: r)) (nt - 1 - q)
      · exact c2
      · exact absurd c2 (hlow' q hq)) lv q0 q1 q2))
theorem dict50_R (h : CI F loc par ty G tq (x :: r) S) (hl : lob (vL x) + 2 * nt ≤ vH x) (hnt : nt ≤ 100) (h6 : vH x - 2 * nt + 1 ≤ 600) : opR F loc par ty G tq (d + 18) 217 [.ref 53, .int (nI 50), .int (nI nt)] 400 [.ref 61, .int (nI 19), .int (nI nt)] x r (vH x - 2 * nt + 1, vU x, vL x) S := by
  have m217 := ml_217
  have m400 := ml_400
  refine opR_ur (d := d + 17) (opR_up (dict_R (d := d) h hl hnt h6) (by omega) (fun rb S' hA => ?_)) (by omega) (fun b Sr W hb hA => ?_)
  · exact Ans.of (by rw [m217]; exact Nat.le_of_ble_eq_true rfl) (Bod.lv (by rfl) (mA2_7 (d := d + 8) (by omega) rfl hA))
  · rcases hb with e | e
    · subst e
      exact Ans.of (by rw [m400]; exact Nat.le_of_ble_eq_true rfl) (Bod.lv (by rfl) (rPl_15 (d := d + 9) (by omega) (by omega) rfl hA))
    · subst e
      exact Ans.of (by rw [m400]; exact Nat.le_of_ble_eq_true rfl) (Bod.lv (by rfl) (rPl_14 (d := d + 9) (by omega) (by omega) rfl hA))
end
