/-! DEEDS ON BOTH SIDES: an attribute is read -/
section
variable {P : Nat → Prop} {T : cS} {gT : Nat} {Q : Nat → Prop} {β β' : Nat → Nat} {F : Nat → Nat → Nat → Prop} {loc par : Nat → Nat → Nat} {ty : Nat → Nat × Nat} {G : Nat → Nat → Nat → Nat × Nat × LL → Prop} {D D' K : List Nat} {z nn g0 g1 g3 g4 g5 gn d d' dr v o i k k0 c e n nt m t tp tt r0 ob_ vb q rr y u s idx : Nat} {tq : Nat → Nat × Nat} {C r : List Lv} {x : Lv} {S S' S1 X W Sc Sr : cS} {f g : Nat → Nat} {hi lo kh kl a b ka kb : Int64} {kd : Int32}
/-- the object at a place of the reference's stack: its kind -/
theorem isK_N (h : CI F loc par ty G tq (x :: r) S) (hH : HR Q β F D S Sr g0 g1 nn) (hv : vrel β hi lo (sA Sr 91 idx) (sL Sr 92 idx) (sL Sr 93 idx)) (hk0 : c_kind hi ≠ 0) (hk2 : idx < 20480) (ho : c_obj hi lo = nI o) (hol : o = 0 ∨ lv S o) (ho2 : o ≤ 1500) : (∀ kq, 1 ≤ kq ∧ kq ≤ 7 → h_kd S o ≠ kq → Ans (d + 9) 363 [.ref 61, .int (nI idx), .int (nI kq)] Sr (some (.int (nI 0))) Sr) ∧ ∀ kq, 1 ≤ kq ∧ kq ≤ 7 → h_kd S o = kq → lv S o ∧ Ans (d + 9) 363 [.ref 61, .int (nI idx), .int (nI kq)] Sr (some (.int (nI 1))) Sr ∧ sL Sr 92 idx = lN (β o) := by
  obtain ⟨e, e4, ea, ek⟩ := vr_k hv hk0
  obtain ⟨o', p1, p2, p3⟩ := vrel_ob hv
  have eo : o' = o := nI_j (by omega) (by omega) (p2.symm.trans ho)
  subst eo
  by_cases e3 : e = 3
  · have hl : lv S o' := by
      rcases p3 with ⟨_, c⟩ | ⟨c, _⟩
      · exact absurd (by rw [ea, e3]) c
      · exact hol.resolve_left (by omega)
    have ha : sL Sr 92 idx = lN (β o') := by
      rcases p3 with ⟨_, c⟩ | ⟨_, _, c⟩
      · exact absurd (by rw [ea, e3]) c
      · exact c
    obtain ⟨t, v2, v3, v4, v5, v6, v7, n, m, c1, c2, c3, c4, ⟨N, c5⟩, c6, c7, c8, c9, c10, _⟩ := HR_o hH hl
    obtain ⟨kd, zz, k7, z3, k3, k10, hkd, hzz, hw⟩ := kdz (mHS_ok h.1 o' hl.1 hl.2.1)
    have c2' : sI Sr (100 * t + 0) = nI kd := by rw [c10, k3]
    refine ⟨fun kq hq hne => ?_, fun kq hq he => ⟨hl, ?_, ha⟩⟩
    · obtain ⟨_, j⟩ := isT_T (d := d) (S := Sr) (o := β o') (kq := kq) hk2 (by omega) ea e4
      exact (j t N kd e3 ha c1 c2 c4 c5 c2' k7).2 (by omega)
    · obtain ⟨_, j⟩ := isT_T (d := d) (S := Sr) (o := β o') (kq := kq) hk2 (by omega) ea e4
      exact (j t N kd e3 ha c1 c2 c4 c5 c2' k7).1 (by omega)
  · have e0' : o' = 0 := by
      rcases p3 with ⟨c, _⟩ | ⟨_, c, _⟩
      · exact c
      · rw [ea] at c
        exact absurd (nI_j (by omega) (by omega) c) e3
    have hk0 : h_kd S o' = 0 := by
      rw [e0']
      unfold h_kd
      rw [CI_z0 h]
      rfl
    refine ⟨fun kq hq hne => (isT_T (d := d) (S := Sr) (o := 0) (kq := kq) hk2 (by omega) ea e4).1 e3, fun kq hq he => by omega⟩
theorem kd_ofi (h : CI F loc par ty G tq (x :: r) S) {k j : Nat} (hl : lv S k) (hk : h_kd S k = j) : sA S 3 k = nI j := by
  obtain ⟨kd, zz, k7, z3, k3, k10, hkd, _⟩ := kdz (mHS_ok h.1 k hl.1 hl.2.1)
  rw [k3, ← hkd, hk]
/-- what lies on top of the reference's stack -/
def topO (β : Nat → Nat) (Sr : cS) (t : Nat) (hi lo : Int64) : Prop := vrel β hi lo (sA Sr 91 (t - 1)) (sL Sr 92 (t - 1)) (sL Sr 93 (t - 1)) ∧ sI Sr 6151 = nI t ∧ 1 ≤ t ∧ t < 20480
/-- an error -/
def attE (F : Nat → Nat → Nat → Prop) (d q rr : Nat) (S : cS) (hi lo : Int64) (o e : Nat) : Prop := (∀ nt, nt ≤ 1 → Ans (d + 13) 136 [.ref 46, .int (nI 0)] S (some (.int (nI o))) S → Bod (d + 13) 218 0 [(0, .ref 53), (1, .int (nI q)), (2, .int (nI nt))] [] S (some (.int (nI e))) S) ∧ ∀ {Q : Nat → Prop} {β : Nat → Nat} {D : List Nat} {z nn g0 g1 g3 g4 g5 : Nat} {Sr : cS} {t : Nat}, XN Q β F D z nn g0 g1 g3 g4 g5 S Sr → topO β Sr t hi lo → Bod (d + 13) 412 0 [(0, .ref 61), (1, .int (nI rr))] [] Sr (some (.int 0)) (wI 6164 (nI e) Sr)
/-- the value of entry e of hh -/
def attV (F : Nat → Nat → Nat → Prop) (d q rr : Nat) (S : cS) (hi lo : Int64) (o hh e : Nat) : Prop := (∀ nt, nt ≤ 1 → Ans (d + 13) 136 [.ref 46, .int (nI 0)] S (some (.int (nI o))) S → ∀ S', Ans (d + 13) 148 [.ref 46, .int (nI nt), .long (h_hi S hh e), .long (h_lo S hh e)] S (some (.int (nI 0))) S' → Bod (d + 13) 218 0 [(0, .ref 53), (1, .int (nI q)), (2, .int (nI nt))] [] S (some (.int (nI 0))) S') ∧ ∀ {Q : Nat → Prop} {β : Nat → Nat} {D : List Nat} {z nn g0 g1 g3 g4 g5 : Nat} {Sr : cS} {t : Nat}, XN Q β F D z nn g0 g1 g3 g4 g5 S Sr → topO β Sr t hi lo → ∃ ev a b, vrel β (h_hi S hh e) (h_lo S hh e) (nI ev) a b ∧ Bod (d + 13) 412 0 [(0, .ref 61), (1, .int (nI rr))] [] Sr (some (.int 1)) (pshW (t - 1) (nI ev) a b Sr)
/-- a method: function fn of entry e of hh, and the instance o -/
def attM (F : Nat → Nat → Nat → Prop) (d q rr : Nat) (S : cS) (hi lo : Int64) (o hh e fn : Nat) : Prop := (∀ nt, nt ≤ 1 → Ans (d + 13) 136 [.ref 46, .int (nI 0)] S (some (.int (nI o))) S → (Ans (d + 13) 178 [.ref 2, .int (nI 6)] S (some (.int (nI 0))) S → Bod (d + 13) 218 0 [(0, .ref 53), (1, .int (nI q)), (2, .int (nI nt))] [] S (some (.int (nI 8))) S) ∧ ∀ k X W S', k ≠ 0 → k ≤ 1500 → Ans (d + 13) 178 [.ref 2, .int (nI 6)] S (some (.int (nI k))) X → Ans (d + 13) 179 [.ref 2, .int (nI k), .int (nI 0), .int (nI fn), .int (nI o)] X none W → Ans (d + 13) 148 [.ref 46, .int (nI nt), .long 4611686018427387904, .long (lN k)] W (some (.int (nI 0))) S' → Bod (d + 13) 218 0 [(0, .ref 53), (1, .int (nI q)), (2, .int (nI nt))] [] S (some (.int (nI 0))) S') ∧ ∀ {Q : Nat → Prop} {β : Nat → Nat} {D : List Nat} {z nn g0 g1 g3 g4 g5 : Nat} {Sr : cS} {t : Nat}, XN Q β F D z nn g0 g1 g3 g4 g5 S Sr → topO β Sr t hi lo → (∀ W, Ans (d + 13) 364 [.ref 61, .int (nI 6)] Sr (some (.int (Int32.ofInt (-1)))) W → Bod (d + 13) 412 0 [(0, .ref 61), (1, .int (nI rr))] [] Sr (some (.int 0)) W) ∧ ∀ r0 s sh v4 N4 S2, r0 < 1500 → Ans (d + 13) 364 [.ref 61, .int (nI 6)] Sr (some (.int (nI r0))) S2 → sQ S2 86 r0 = some s → 108 ≤ s → (∃ N, (sS S2)[s - 108]? = some (13, N)) → sI S2 6151 = nI t → sQ Sr 86 (β hh) = some sh → (∃ l, sS S2 = sS Sr ++ l) → sV S2 (100 * sh + 4) = .ref v4 → isK S2 v4 1 N4 → N4 < 2 ^ 20 → e < N4 → sL S2 v4 e = lN (β fn) → Bod (d + 13) 412 0 [(0, .ref 61), (1, .int (nI rr))] [] Sr (some (.int 1)) (pshW (t - 1) (nI 3) (lN r0) 0 (wI (100 * s + 12) (nI (β o)) (wI (100 * s + 11) (nI (β fn)) S2)))
theorem att_B (h : CI F loc par ty G tq (x :: r) S) (hF : F q 0 rr) (hq : q < 4096) (ho : c_obj hi lo = nI o) (o1 : o ≤ 1500) (o3 : o = 0 ∨ lv S o) (hk0 : c_kind hi ≠ 0) : (∃ e, (e = 2 ∨ e = 9) ∧ attE F d q rr S hi lo o e) ∨ (∃ hh e, lv S hh ∧ (h_kd S hh = 4 ∨ h_kd S hh = 5) ∧ e < h_n S hh ∧ attV F d q rr S hi lo o hh e) ∨ ∃ hh e fn, lv S hh ∧ e < h_n S hh ∧ lv S fn ∧ sA S 3 fn = nI 3 ∧ lv S o ∧ sA S 3 o = nI 5 ∧ c_obj (h_hi S hh e) (h_lo S hh e) = nI fn ∧ attM F d q rr S hi lo o hh e fn := by
  have m220 := ml_220
  have m398 := ml_398
  have qh := hasA (d := d) h o1 o3
  have n1 := nameHi_T (d := d + 11) (S := S) hq
  have n2 := nameLo_T (d := d + 11) (S := S) hq
  obtain ⟨k7, ck⟩ := kind_C (d := d + 2) h o1 o3
  by_cases k45 : h_kd S o = 4 ∨ h_kd S o = 5
  · have hol := lv_of h o3 (by omega)
    rw [if_pos k45] at qh
    have ho1 := hol.1
    have oko := mHS_ok h.1 o hol.1 hol.2.1
    have no := h_n_le oko
    have hw4 : c_width (h_kd S o) = 4 := by rcases k45 with c | c <;> rw [c] <;> rfl
    obtain ⟨oe, hka, hfi⟩ := find_C2 hol oko hw4 (sL S 17 q) (sL S 18 q)
    have go220 : ∀ {hd : Nat} {rv : Int32}, hd ≤ 1500 → (∀ lv1, sm_get lv1 0 = some (.ref 2) → sm_get lv1 2 = some (.long (sL S 17 q)) → sm_get lv1 4 = some (.long (sL S 18 q)) → sm_get lv1 6 = some (.int (nI hd)) → sm_get lv1 7 = some (.int (nI 0)) → Bod (d + 12) 220 6 lv1 [] S (some (.int rv)) S) → Ans (d + 13) 220 [.ref 2, .int (nI hd), .long (sL S 17 q), .long (sL S 18 q)] S (some (.int rv)) S := fun hd15 hb => Ans.of (by rw [m220]; exact Nat.le_of_ble_eq_true rfl) (Bod.lv (by rfl) (mHd_1 (d := d + 4) (by omega) hb))
    cases oe with
    | some e =>
      -- its own
      have he := hka.1
      right; left
      refine ⟨o, e, hol, k45, he, fun nt hnt qo S' hg => ?_, fun {Q β D z nn g0 g1 g3 g4 g5 Sr t} hX hO => ?_⟩
      · have h220 : Ans (d + 13) 220 [.ref 2, .int (nI o), .long (sL S 17 q), .long (sL S 18 q)] S (some (.int (nI o))) S := go220 hol.2.1 (fun lv1 p0 p2 p4 p6 p7 => mHdL_4 (d := d + 4) p0 p2 p4 p6 p7 (by omega) (by omega) (by omega) (by omega) (hfi (d + 10)) (fI_pos (by omega)).1)
        obtain ⟨eh, el⟩ := ent_C (d := d + 10) hol oko he
        have hne : sm_c1 .ne (nI o) true false = true := by
          show (if nI o = 0 then false else true) = true
          exact if_neg (nI_ne (b := 0) (by omega) (by omega) (by omega) : nI o ≠ nI 0)
        rcases k45 with c | c
        · exact mAt_1 (d := d + 5) (by omega) (by omega) (by omega) qo qh n1 n2 (by omega) ck (by omega) h220 hne (hfi (d + 11)) eh el (objectOf_ev (d := d + 12)) hg
        · exact mAt_3 (d := d + 5) (by omega) (by omega) (by omega) qo qh n1 n2 (by omega) ck (by omega) (hfi (d + 11)) (fI_pos (by omega)).2 h220 hne (hfi (d + 11)) eh el (objectOf_ev (d := d + 12)) hg
      · obtain ⟨hv, h51, t1', t2'⟩ := hO
        have hrr := (XR_nm hX hF).2.2.1
        have hK := isK_N (d := d + 4) h hX.1 hv hk0 (by omega) ho o3 o1
        obtain ⟨t, v2, v3, v4, v5, v6, v7, n, m, bt, q1, q2, t108, ⟨N, tS⟩, wr, wd, wl, wj, f0, f1, fn, fv, f6, h87⟩ := HR_o hX.1 hol
        have hf : Ans (d + 13) 399 [.ref t, .int (nI 0), .long ((nI rr).toInt64), .long 0] Sr (some (.int (nI e))) Sr := find_A (d := d + 4) hX hF hol k45 hka q1
        obtain ⟨c1, c2, c3, c4, c5, c6, c7, c8, c9, c10, c11, c12, c13, c14, c15, c16, _⟩ := wr
        have hve := fv e he
        have q3 : sA S 3 o ≠ nI 7 := fun c => by
          unfold h_kd at k45
          rw [c] at k45
          exact absurd k45 (by decide)
        obtain ⟨ev, ev4, eva, _⟩ := vr_k hve (((h.2.2.2.1 o hol).2.1 e he).2 q3)
        refine ⟨ev, sL Sr v4 e, sL Sr v5 e, by rw [← eva]; exact hve, ?_⟩
        rcases k45 with c | c
        · obtain ⟨_, j1, ja⟩ := hK.2 4 (by omega) c
          exact rGa_15 (d := d + 5) (by omega) h51 (by omega) t1' (hK.1 5 (by omega) (by omega)) j1 (by rw [ja, lN_i]) bt t108 q1 (by omega) hf tS t108 q1 (by omega) hf tS tS (by rw [f0, kd_ofi h hol c]) (by omega) rfl h51 (by omega) t1' tS c4 c10 c16 (by omega) eva (by omega) c6 c12 c16 (by omega) c7 c13 c16 (by omega) (rpsh_T (d := d + 4) (by omega))
        · obtain ⟨_, j1, ja⟩ := hK.2 5 (by omega) c
          exact rGa_2 (d := d + 5) (by omega) h51 (by omega) t1' j1 (by rw [ja, lN_i]) bt t108 q1 (by omega) hf tS t108 q1 (by omega) hf tS tS (by rw [f0, kd_ofi h hol c]) (by omega) (by omega) h51 (by omega) t1' tS c4 c10 c16 (by omega) eva (by omega) c6 c12 c16 (by omega) c7 c13 c16 (by omega) (rpsh_T (d := d + 4) (by omega))
    | none =>
      have e7 : ∃ a, sA S 7 o = nI a ∧ (a = 0 ∨ (lv S a ∧ sA S 3 a = nI 4 ∧ (ty a).2 < (ty a).2 + 1)) ∧ (h_kd S o = 5 → a ≠ 0) ∧ (h_kd S o = 4 → a ≠ 0 → (ty a).2 < (ty o).2) := by
        rcases k45 with c | c
        · obtain ⟨_, a, a1, a2⟩ := (h.2.2.2.1 o hol).1.2.2.1 (kd_ofi h hol c)
          exact ⟨a, a1, a2.imp id (fun b => ⟨b.1, b.2.1, by omega⟩), fun c5 => by omega, fun _ h0 => (a2.resolve_left h0).2.2⟩
        · obtain ⟨_, a, a1, a2, a3⟩ := (h.2.2.2.1 o hol).1.2.2.2.1 (kd_ofi h hol c)
          exact ⟨a, a1, Or.inr ⟨a2, a3, by omega⟩, fun _ => by have := a2.1; omega, fun c4 => by omega⟩
      obtain ⟨a, a7, a8, a5, a4⟩ := e7
      obtain ⟨hh, ⟨i1, i0⟩, i2, i3⟩ := hold_B (fun c hc => mHS_ok h.1 c hc.1 hc.2.1) (fun c hc => (h.2.2.2.1 c hc).1) hq ((ty a).2 + 1) a a8
      have ha15 : a ≤ 1500 := by
        rcases a8 with e | e
        · omega
        · exact e.1.2.1
      have f7 := firstAt_T (d := d + 10) (S := S) hol.1 hol.2.1
      rw [a7] at f7
      have hneI : ∀ {w : Nat}, w ≤ 1500 → w ≠ 0 → sm_c1 .ne (nI w) true false = true := fun {w} hw h0 => by
        show (if nI w = 0 then false else true) = true
        exact if_neg (nI_ne (b := 0) (by omega) (by omega) h0 : nI w ≠ nI 0)
      have hne0 : sm_c1 .ne (nI 0) true false = false := by decide
      -- the class: from o (a class), from a (an instance's)
      have c220 : h_kd S o = 4 → Ans (d + 13) 220 [.ref 2, .int (nI o), .long (sL S 17 q), .long (sL S 18 q)] S (some (.int (nI hh))) S := fun c4 => go220 hol.2.1 (fun lv1 p0 p2 p4 p6 p7 => mHdL_3 (d := d + 4) p0 p2 p4 p6 p7 (by omega) (by omega) (by omega) (by omega) (hfi (d + 10)) fI_neg.1 (by omega) f7 (fun lv2 u0 u2 u4 u6 u7 => i2 [o] (List.nodup_cons.mpr ⟨List.not_mem_nil, List.nodup_nil⟩) (fun y hy => by rw [List.mem_singleton.mp hy]; exact ⟨⟨hol.1, hol.2.1⟩, a4 c4⟩) (d + 4) lv2 u0 u2 u4 u6 u7))
      have c220' : Ans (d + 13) 220 [.ref 2, .int (nI a), .long (sL S 17 q), .long (sL S 18 q)] S (some (.int (nI hh))) S := go220 ha15 (fun lv1 p0 p2 p4 p6 p7 => i2 [] List.nodup_nil (fun y hy => by cases hy) (d + 4) lv1 p0 p2 p4 p6 p7)
      -- the reference
      have r398 : ∀ {Q : Nat → Prop} {β : Nat → Nat} {D : List Nat} {z nn g0 g1 g3 g4 g5 : Nat} {Sr : cS}, XN Q β F D z nn g0 g1 g3 g4 g5 S Sr → Ans (d + 13) 398 [.ref 61, .int (lkI β a), .int (nI rr)] Sr (some (.int (lkI β hh))) Sr := fun {Q β D z nn g0 g1 g3 g4 g5 Sr} hX => by
        have hrr := (XR_nm hX hF).2.2.1
        by_cases c : a = 0
        · have e : lkI β a = Int32.ofInt (-1) := if_pos c
          have hb := i3 hF hX (d + 3)
          rw [e] at hb ⊢
          exact Ans.of (by rw [m398]; exact Nat.le_of_ble_eq_true rfl) (Bod.lv (by rfl) (rCwN_1 (d := d + 4) (by omega) (fun lv1 p0 p2 p3 => hb lv1 p0 p2 p3)))
        · have e : lkI β a = nI (β a) := if_neg c
          have hba := (hX.1.ob (a8.resolve_left c).1).1
          have hb := i3 hF hX (d + 3)
          rw [e] at hb ⊢
          exact Ans.of (by rw [m398]; exact Nat.le_of_ble_eq_true rfl) (Bod.lv (by rfl) (rCw_1 (d := d + 4) (by omega) (by omega) (fun lv1 p0 p2 p3 => hb lv1 p0 p2 p3)))
      have rth : ∀ {Q : Nat → Prop} {β : Nat → Nat} {D : List Nat} {z nn g0 g1 g3 g4 g5 : Nat} {Sr : cS}, XN Q β F D z nn g0 g1 g3 g4 g5 S Sr → ∃ t N, β o < 1500 ∧ sQ Sr 86 (β o) = some t ∧ 108 ≤ t ∧ (sS Sr)[t - 108]? = some (13, N) ∧ sI Sr (100 * t + 0) = nI (h_kd S o) ∧ Ans (d + 13) 399 [.ref t, .int (nI 0), .long ((nI rr).toInt64), .long 0] Sr (some (.int (Int32.ofInt (-1)))) Sr ∧ ((a = 0 ∧ sI Sr (100 * t + 11) = Int32.ofInt (-1)) ∨ (a ≠ 0 ∧ sI Sr (100 * t + 11) = nI (β a) ∧ β a < 1500)) := fun {Q β D z nn g0 g1 g3 g4 g5 Sr} hX => by
        obtain ⟨t, _, _, _, _, _, _, _, _, bt, t1, t2, t108, ⟨N, tS⟩, _, _, _, _, f0, _⟩ := HR_o hX.1 hol
        have hf : Ans (d + 13) 399 [.ref t, .int (nI 0), .long ((nI rr).toInt64), .long 0] Sr (some (.int (Int32.ofInt (-1)))) Sr := find_A (d := d + 4) hX hF hol k45 hka t1
        have hob := hX.1.ob hol
        obtain ⟨_, _, t', v2, v3, v4, v5, v6, v7, n', m, c1, _, _, _, _, _, c7, _⟩ := hob
        have et : t' = t := Option.some.inj (c1.1.symm.trans t1)
        subst et
        refine ⟨t', N, bt, t1, t108, tS, by rw [f0, kd_ofi h hol rfl], hf, ?_⟩
        rcases c7 with ⟨c7, c8⟩ | ⟨k, k1, k2, c7, c8⟩
        · exact Or.inl ⟨nI_j (by omega) (by omega) (a7.symm.trans c7), c8⟩
        · have hak : a = k := nI_j (by omega) (by omega) (a7.symm.trans c7)
          subst hak
          exact Or.inr ⟨by omega, c8, (hX.1.ob (a8.resolve_left (by omega)).1).1⟩
      by_cases h0 : hh = 0
      · subst h0
        left
        refine ⟨9, Or.inr rfl, fun nt hnt qo => ?_, fun {Q β D z nn g0 g1 g3 g4 g5 Sr t} hX hO => ?_⟩
        · rcases k45 with c | c
          · exact mAt_2 (d := d + 5) (by omega) (by omega) (by omega) qo qh n1 n2 (by omega) ck (by omega) (c220 c) hne0
          · exact mAt_8 (d := d + 5) (by omega) (by omega) (by omega) qo qh n1 n2 (by omega) ck (by omega) (hfi (d + 11)) fI_neg.2 (by omega) (f7.up (by omega)) c220' hne0
        · obtain ⟨hv, h51, t1', t2'⟩ := hO
          have hrr := (XR_nm hX hF).2.2.1
          have hK := isK_N (d := d + 4) h hX.1 hv hk0 (by omega) ho o3 o1
          obtain ⟨t, N, bt, q1, t108, tS, f0, hf, hlk⟩ := rth hX
          have hr := r398 hX
          rw [show lkI β 0 = Int32.ofInt (-1) from if_pos rfl] at hr
          rcases k45 with c | c
          · obtain ⟨_, j1, ja⟩ := hK.2 4 (by omega) c
            rcases hlk with ⟨l0, l1⟩ | ⟨l0, l1, l2⟩
            · rw [show lkI β a = Int32.ofInt (-1) from if_pos l0] at hr
              exact rGa_28 (d := d + 5) (by omega) h51 (by omega) t1' (hK.1 5 (by omega) (by omega)) j1 (by rw [ja, lN_i]) bt t108 q1 hf tS tS l1 hr (rfail_T (d := d + 4) 9 (by omega) Sr)
            · rw [show lkI β a = nI (β a) from if_neg l0] at hr
              exact rGa_22 (d := d + 5) (by omega) h51 (by omega) t1' (hK.1 5 (by omega) (by omega)) j1 (by rw [ja, lN_i]) bt t108 q1 hf tS tS l1 (by omega) hr (rfail_T (d := d + 4) 9 (by omega) Sr)
          · obtain ⟨_, j1, ja⟩ := hK.2 5 (by omega) c
            rcases hlk with ⟨l0, l1⟩ | ⟨l0, l1, l2⟩
            · exact absurd l0 (a5 c)
            · rw [show lkI β a = nI (β a) from if_neg l0] at hr
              exact rGa_8 (d := d + 5) (by omega) h51 (by omega) t1' j1 (by rw [ja, lN_i]) bt t108 q1 hf tS tS l1 (by omega) hr (rfail_T (d := d + 4) 9 (by omega) Sr)
      · have ha0 : a ≠ 0 := fun c => h0 (i0 c)
        obtain ⟨hlh, h4h, e, hkh⟩ := i1.resolve_left h0
        have hlh1 := hlh.1
        have hlh2 := hlh.2.1
        have hkdh := kd_of h4h (by omega)
        have okh := mHS_ok h.1 hh hlh.1 hlh.2.1
        have nh := h_n_le okh
        have he := hkh.1
        have hw4h : c_width (h_kd S hh) = 4 := by rw [hkdh]; rfl
        have hfh : ∀ d', Ans (d' + 2) 206 [.ref 2, .int (nI hh), .long (sL S 17 q), .long (sL S 18 q)] S (some (.int (nI e))) S := fun d' => (find_C (d := d') hlh okh hw4h).1 e hkh.1 hkh.2.1 hkh.2.2
        obtain ⟨eh, el⟩ := ent_C (d := d + 10) hlh okh he
        have q3 : sA S 3 hh ≠ nI 7 := by rw [h4h]; decide
        obtain ⟨fn, fn1, fn2, fn3⟩ := ent_o okh (mHS_cl h.1) hlh he
        have hnh := hneI hlh2 h0
        have hkv := ((h.2.2.2.1 hh hlh).2.1 e he).2 q3
        -- the thing that holds it, on the other side
        have rhh : ∀ {Q : Nat → Prop} {β : Nat → Nat} {D : List Nat} {z nn g0 g1 g3 g4 g5 : Nat} {Sr : cS}, XN Q β F D z nn g0 g1 g3 g4 g5 S Sr → ∃ t v2 v4 v5 n N ev, β hh < 1500 ∧ sQ Sr 86 (β hh) = some t ∧ 108 ≤ t ∧ (sS Sr)[t - 108]? = some (13, N) ∧ sV Sr (100 * t + 2) = .ref v2 ∧ isK Sr v2 0 n ∧ sV Sr (100 * t + 4) = .ref v4 ∧ isK Sr v4 1 n ∧ sV Sr (100 * t + 5) = .ref v5 ∧ isK Sr v5 1 n ∧ n < 2 ^ 20 ∧ e < n ∧ ev ≤ 4 ∧ sA Sr v2 e = nI ev ∧ vrel β (h_hi S hh e) (h_lo S hh e) (nI ev) (sL Sr v4 e) (sL Sr v5 e) ∧ Ans (d + 13) 399 [.ref t, .int (nI 0), .long ((nI rr).toInt64), .long 0] Sr (some (.int (nI e))) Sr := fun {Q β D z nn g0 g1 g3 g4 g5 Sr} hX => by
          obtain ⟨t, v2, v3, v4, v5, v6, v7, n, m, bt, t1, t2, t108, ⟨N, tS⟩, wr, wd, wl, wj, f0, f1, fnn, fv, f6, h87⟩ := HR_o hX.1 hlh
          have hf : Ans (d + 13) 399 [.ref t, .int (nI 0), .long ((nI rr).toInt64), .long 0] Sr (some (.int (nI e))) Sr := find_A (d := d + 4) hX hF hlh (Or.inl hkdh) hkh t1
          obtain ⟨c1, c2, c3, c4, c5, c6, c7, c8, c9, c10, c11, c12, c13, c14, c15, c16, _⟩ := wr
          have hve := fv e he
          obtain ⟨ev, ev4, eva, _⟩ := vr_k hve hkv
          exact ⟨t, v2, v4, v5, n, N, ev, bt, t1, t108, tS, c4, c10, c6, c12, c7, c13, c16, by omega, ev4, eva, by rw [← eva]; exact hve, hf⟩
        by_cases hm : h_kd S o = 5 ∧ h_kd S fn = 3
        · -- a method
          obtain ⟨c, hf3⟩ := hm
          have hlf := lv_of h fn3 (by omega)
          have hf1 := hlf.1
          have hf3' := kd_ofi h hlf hf3
          right; right
          obtain ⟨_, ckf⟩ := kind_C (d := d + 2) h fn1 fn3
          have q137 := objectOf_n (d := d + 12) (S := S) fn2
          refine ⟨hh, e, fn, hlh, he, hlf, hf3', hol, kd_ofi h hol c, fn2, fun nt hnt qo => ⟨fun A => ?_, fun k X W S' k0 k15 A B hg => ?_⟩, fun {Q β D z nn g0 g1 g3 g4 g5 Sr t} hX hO => ?_⟩
          · exact mAt_6 (d := d + 5) (by omega) (by omega) (by omega) qo qh n1 n2 (by omega) ck c (hfi (d + 11)) fI_neg.2 (by omega) (f7.up (by omega)) c220' hnh (hfh (d + 11)) eh el q137 (by omega) ckf hf3 A hne0
          · exact mAt_5 (d := d + 5) (by omega) (by omega) (by omega) qo qh n1 n2 (by omega) ck c (hfi (d + 11)) fI_neg.2 (by omega) (f7.up (by omega)) c220' hnh (hfh (d + 11)) eh el q137 (by omega) ckf hf3 A (hneI k15 k0) B (by rw [nI_ll (by omega)]; exact hg)
          · obtain ⟨hv, h51, t1', t2'⟩ := hO
            have hrr := (XR_nm hX hF).2.2.1
            have hK := isK_N (d := d + 4) h hX.1 hv hk0 (by omega) ho o3 o1
            obtain ⟨to, No, bo, oq, o108, oS, of0, ohf, hlk⟩ := rth hX
            obtain ⟨th, v2, v4, v5, n, N, ev, bh, hq', h108, hS', hv2, hk2, hv4, hk4, hv5, hk5, hn20, hen, ev4, eva, hvr, hhf⟩ := rhh hX
            obtain ⟨_, j1, ja⟩ := hK.2 5 (by omega) c
            obtain ⟨l0, l1, l2⟩ := hlk.resolve_left (fun c' => ha0 c'.1)
            have hr := r398 hX
            rw [show lkI β a = nI (β a) from if_neg l0, show lkI β hh = nI (β hh) from if_neg h0] at hr
            obtain ⟨o', p1, p2, p3⟩ := vrel_ob hvr
            have eo : o' = fn := nI_j (by omega) (by omega) (p2.symm.trans fn2)
            subst eo
            obtain ⟨_, e3, ea⟩ := p3.resolve_left (fun c' => by omega)
            have ev3 : ev = 3 := nI_j (by omega) (by omega) e3
            obtain ⟨tf, _, _, _, _, _, _, _, _, bf, fq, _, f108, ⟨Nf, fS⟩, _, _, _, _, ff0, _⟩ := HR_o hX.1 hlf
            have ff0' : sI Sr (100 * tf + 0) = nI 3 := by rw [ff0, hf3']
            refine ⟨fun W A => ?_, fun r0 s sh w4 N4 S2 hr0 A s1 s2 ⟨Ns, s3⟩ s4 s5 ⟨ls, s6⟩ s7 s8 s9 s10 s11 => ?_⟩
            · exact rGa_6 (d := d + 5) (by omega) h51 (by omega) t1' j1 (by rw [ja, lN_i]) bo o108 oq ohf oS oS l1 (by omega) bh hr h108 hq' (by omega) hhf hS' oS (by rw [of0, c]) (by omega) (by omega) hS' hv2 hk2 hn20 hen eva (by omega) ev3 hv4 hk4 hn20 hen (by rw [ea, lN_i]) bf f108 fq fS ff0' (by omega) rfl A
            · have esh : sh = th := Option.some.inj (s5.symm.trans hq')
              subst esh
              exact rGa_5 (d := d + 5) (zg3 := Ns) (by omega) h51 (by omega) t1' j1 (by rw [ja, lN_i]) bo o108 oq ohf oS oS l1 (by omega) bh hr h108 hq' (by omega) hhf hS' oS (by rw [of0, c]) (by omega) (by omega) hS' hv2 hk2 hn20 hen eva (by omega) ev3 hv4 hk4 hn20 hen (by rw [ea, lN_i]) bf f108 fq fS ff0' (by omega) rfl hr0 A s2 s1 (by rw [s6, List.getElem?_append_left (List.getElem?_eq_some_iff.mp hS').1]; exact hS') s7 s8 s9 s10 (by rw [s11, lN_i]) bf s3 (by rw [rI, if_neg (by omega), rI, if_neg (by omega)]; exact s4) (by omega) t1' (by rw [nI_ll (by omega)]; exact rpsh_T (d := d + 4) (by omega))
        · right; left
          refine ⟨hh, e, hlh, Or.inl hkdh, he, fun nt hnt qo S' hg => ?_, fun {Q β D z nn g0 g1 g3 g4 g5 Sr t} hX hO => ?_⟩
          · rcases k45 with c | c
            · exact mAt_1 (d := d + 5) (by omega) (by omega) (by omega) qo qh n1 n2 (by omega) ck (by omega) (c220 c) hnh (hfh (d + 11)) eh el (objectOf_ev (d := d + 12)) hg
            · obtain ⟨_, ckf⟩ := kind_C (d := d + 2) h fn1 fn3
              exact mAt_7 (d := d + 5) (by omega) (by omega) (by omega) qo qh n1 n2 (by omega) ck c (hfi (d + 11)) fI_neg.2 (by omega) (f7.up (by omega)) c220' hnh (hfh (d + 11)) eh el (objectOf_n (d := d + 12) (S := S) fn2) (by omega) ckf (fun c3 => hm ⟨c, c3⟩) hg
          · obtain ⟨hv, h51, t1', t2'⟩ := hO
            have hrr := (XR_nm hX hF).2.2.1
            have hK := isK_N (d := d + 4) h hX.1 hv hk0 (by omega) ho o3 o1
            obtain ⟨to, No, bo, oq, o108, oS, of0, ohf, hlk⟩ := rth hX
            obtain ⟨th, v2, v4, v5, n, N, ev, bh, hq', h108, hS', hv2, hk2, hv4, hk4, hv5, hk5, hn20, hen, ev4, eva, hvr, hhf⟩ := rhh hX
            obtain ⟨l0, l1, l2⟩ := hlk.resolve_left (fun c' => ha0 c'.1)
            have hr := r398 hX
            rw [show lkI β a = nI (β a) from if_neg l0, show lkI β hh = nI (β hh) from if_neg h0] at hr
            refine ⟨ev, sL Sr v4 e, sL Sr v5 e, hvr, ?_⟩
            rcases k45 with c | c
            · obtain ⟨_, j1, ja⟩ := hK.2 4 (by omega) c
              exact rGa_17 (d := d + 5) (by omega) h51 (by omega) t1' (hK.1 5 (by omega) (by omega)) j1 (by rw [ja, lN_i]) bo o108 oq ohf oS oS l1 (by omega) bh hr h108 hq' (by omega) hhf hS' oS (by rw [of0, c]) (by omega) rfl h51 (by omega) t1' hS' hv2 hk2 hn20 hen eva (by omega) hv4 hk4 hn20 hen hv5 hk5 hn20 hen (rpsh_T (d := d + 4) (by omega))
            · obtain ⟨_, j1, ja⟩ := hK.2 5 (by omega) c
              by_cases e3 : ev = 3
              · obtain ⟨o', p1, p2, p3⟩ := vrel_ob hvr
                have eo : o' = fn := nI_j (by omega) (by omega) (p2.symm.trans fn2)
                subst eo
                obtain ⟨z0, _, ea⟩ := p3.resolve_left (fun c' => c'.2 (by rw [e3]))
                have hlf := fn3.resolve_left (by omega)
                obtain ⟨tf, _, _, _, _, _, _, _, _, bf, fq, _, f108, ⟨Nf, fS⟩, _, _, _, _, ff0, _⟩ := HR_o hX.1 hlf
                obtain ⟨k7f, _⟩ := kind_C (d := d + 2) h fn1 fn3
                exact rGa_7 (d := d + 5) (by omega) h51 (by omega) t1' j1 (by rw [ja, lN_i]) bo o108 oq ohf oS oS l1 (by omega) bh hr h108 hq' (by omega) hhf hS' oS (by rw [of0, c]) (by omega) (by omega) hS' hv2 hk2 hn20 hen eva (by omega) e3 hv4 hk4 hn20 hen (by rw [ea, lN_i]) bf f108 fq fS (by rw [ff0, kd_ofi h hlf rfl]) (by omega) (fun c3 => hm ⟨c, c3⟩) h51 (by omega) t1' hv5 hk5 hn20 hen (rpsh_T (d := d + 4) (by omega))
              · exact rGa_4 (d := d + 5) (by omega) h51 (by omega) t1' j1 (by rw [ja, lN_i]) bo o108 oq ohf oS oS l1 (by omega) bh hr h108 hq' (by omega) hhf hS' oS (by rw [of0, c]) (by omega) (by omega) hS' hv2 hk2 hn20 hen eva (by omega) e3 h51 (by omega) t1' hv4 hk4 hn20 hen hv5 hk5 hn20 hen (rpsh_T (d := d + 4) (by omega))
  · rw [if_neg k45] at qh
    left
    refine ⟨2, Or.inl rfl, fun nt hnt qo => mAt_9 (d := d + 5) (by omega) (by omega) (by omega) qo qh, fun {Q β D z nn g0 g1 g3 g4 g5 Sr t} hX hO => ?_⟩
    obtain ⟨hv, h51, t1, t2⟩ := hO
    have hK := isK_N (d := d + 4) h hX.1 hv hk0 (by omega) ho o3 o1
    have hrr := (XR_nm hX hF).2.2.1
    exact rGa_29 (d := d + 5) (by omega) h51 (by omega) t1 (hK.1 5 (by omega) (fun c => k45 (Or.inr c))) (hK.1 4 (by omega) (fun c => k45 (Or.inl c))) (rfail_T (d := d + 4) 2 (by omega) Sr)
end
