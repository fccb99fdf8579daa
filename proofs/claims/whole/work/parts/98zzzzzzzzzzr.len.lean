/-! DEEDS ON BOTH SIDES: how long something is (the first builtin) -/
section
variable {P : Nat → Prop} {T : cS} {gT : Nat} {Q : Nat → Prop} {β : Nat → Nat} {F : Nat → Nat → Nat → Prop} {loc par : Nat → Nat → Nat} {ty : Nat → Nat × Nat} {G : Nat → Nat → Nat → Nat × Nat × LL → Prop} {D K : List Nat} {z nn g0 g1 g3 g4 g5 gn d v o i : Nat} {tq : Nat → Nat × Nat} {r : List Lv} {x : Lv} {S S' Sc Sr : cS} {hi lo : Int64} {l' : List (Nat × Nat)} {s : Nat}
/-- an int in the place of v values, what was to be called among them -/
theorem opR_intM {dg jc jr : Nat} {ac ar : List Value} (w : Int64) (h : CI F loc par ty G tq (x :: r) S) (hv : v ≤ vH x) (hx : vL x = ((i, 1) :: l', s)) (hi' : vH x - v ≤ i) (hl : lob (l', s) + v ≤ vH x) (h6 : vH x - v + 1 ≤ 600) (hc : ∀ S', Ans (dg + 9) 148 [.ref 46, .int (nI v), .long 2305843009213693952, .long w] S (some (.int (nI 0))) S' → Ans d jc ac S (some (.int (nI 0))) S') (hr : ∀ P T gT Q β D z nn g0 g1 g3 g4 g5 gn Sr, XR P T gT Q β F D z nn g0 g1 g3 g4 g5 gn tq (x :: r) S Sr → Ans d jr ar Sr (some (.int 1)) (pshW (topC (x :: r) + offC (x :: r) - v) (nI 1) w 0 Sr)) : opR F loc par ty G tq d jc ac jr ar x r (vH x - v + 1, vU x, (l', s)) S := by
  refine opR_giveM (dg := dg) (o := 0) h hv hx hi' hl h6 (int_o _).1 (by omega) (Or.inl rfl) (int_o w).2 hc (fun P T gT Q β D z nn g0 g1 g3 g4 g5 gn Sr hX => ?_)
  obtain ⟨l1, l2, l3, l4, l5⟩ := CI_len h
  have et : topC (x :: r) - v + offC (x :: r) = topC (x :: r) + offC (x :: r) - v := by omega
  rw [et]
  obtain ⟨p1, p2, p3, p4, p5⟩ := pshW_s (tp := topC (x :: r) + offC (x :: r) - v) (kd := nI 1) (xa := w) (xb := 0) (S := Sr)
  exact ⟨_, hr P T gT Q β D z nn g0 g1 g3 g4 g5 gn Sr hX, p1, p2, by rw [p3, p4, p5]; exact vr_mk w⟩
theorem len_R (h : CI F loc par ty G tq (x :: r) S) (hx : vL x = ((i, 1) :: l', s)) (hi' : vH x - 2 ≤ i) (hl : lob (l', s) + 2 ≤ vH x) : opR F loc par ty G tq (d + 15) 244 [.ref 49] 380 [.ref 61, .int (nI 1), .int (nI (topC (x :: r) + offC (x :: r) - 2)), .int (nI 1)] x r (vH x - 2 + 1, vU x, (l', s)) S := by
  have m244 := ml_244
  have m380 := ml_380
  obtain ⟨l1, l2, l3, l4, l5⟩ := CI_len h
  have hT := CI_T h
  have eb : topC (x :: r) + offC (x :: r) - 1 - 0 = topC (x :: r) + offC (x :: r) - 2 + 1 := by omega
  obtain ⟨o, o1, o2, o3⟩ := mHS_o h.1 (i := topC (x :: r) - 1 - 0) (by omega)
  have q0 := hi_ev (d := d + 12) (b := 0) l3 (by omega) (by omega)
  have qk := kindOf_ev (d := d + 13) (S := S) (hi := sL S 47 (topC (x :: r) - 1 - 0))
  have qo := object_n (d := d + 11) (b := 0) l3 (by omega) (by omega) o2
  obtain ⟨k7, ck⟩ := kind_C (d := d + 3) h o1 o3
  have goC : ∀ {e : Int32} {S'}, Bod (d + 14) 244 0 [(0, .ref 49)] [] S (some (.int e)) S' → Ans (d + 15) 244 [.ref 49] S (some (.int e)) S' := fun hb => Ans.of (by rw [m244]; exact Nat.le_of_ble_eq_true rfl) (Bod.lv (by rfl) hb)
  have goR : ∀ {Sr : cS} {e : Int32} {W : cS}, Bod (d + 14) 380 0 [(0, .ref 61), (1, .int (nI 1)), (2, .int (nI (topC (x :: r) + offC (x :: r) - 2))), (3, .int (nI 1))] [] Sr (some (.int e)) W → Ans (d + 15) 380 [.ref 61, .int (nI 1), .int (nI (topC (x :: r) + offC (x :: r) - 2)), .int (nI 1)] Sr (some (.int e)) W := fun hb => Ans.of (by rw [m380]; exact Nat.le_of_ble_eq_true rfl) (Bod.lv (by rfl) hb)
  have b2 : topC (x :: r) + offC (x :: r) - 2 + 1 < 20480 := by omega
  have bb : topC (x :: r) + offC (x :: r) - 2 < 2 ^ 20 := by omega
  have his : ∀ {P T gT Q β D z nn g0 g1 g3 g4 g5 gn Sr}, XR P T gT Q β F D z nn g0 g1 g3 g4 g5 gn tq (x :: r) S Sr → (∀ kq, kq = 1 ∨ kq = 2 → h_kd S o ≠ kq → Ans (d + 14) 363 [.ref 61, .int (nI (topC (x :: r) + offC (x :: r) - 2 + 1)), .int (nI kq)] Sr (some (.int (nI 0))) Sr) ∧ ∀ kq, kq = 1 ∨ kq = 2 → h_kd S o = kq → lv S o ∧ Ans (d + 14) 363 [.ref 61, .int (nI (topC (x :: r) + offC (x :: r) - 2 + 1)), .int (nI kq)] Sr (some (.int (nI 1))) Sr ∧ ∀ t, sQ Sr 86 (β o) = some t → tOk Sr (β o) t → Ans (d + 14) 361 [.ref 61, .int (nI (topC (x :: r) + offC (x :: r) - 2 + 1))] Sr (some (.ref t)) Sr := fun {P T gT Q β D z nn g0 g1 g3 g4 g5 gn Sr} hX => by
    have := XR_is (d := d + 5) h hX (ob_ := 0) (by omega) o2 o3 o1
    rw [eb] at this
    exact this
  by_cases k3 : c_kind (sL S 47 (topC (x :: r) - 1 - 0)) = nI 3
  · have hln := c_len_le (sL S 47 (topC (x :: r) - 1 - 0))
    have ql := lengthOf_ev (d := d + 13) (S := S) (hi := sL S 47 (topC (x :: r) - 1 - 0)) rfl
    refine opR_intM (dg := d + 5) (nI (c_len (sL S 47 (topC (x :: r) - 1 - 0)))).toInt64 h (by omega) hx hi' hl (by omega) (fun S' hg => goC (mLe_1 (d := d + 6) q0 qk k3 q0 (by omega) ql hg)) (fun P T gT Q β D z nn g0 g1 g3 g4 g5 gn Sr hX => goR ?_)
    obtain ⟨y, y4, ya, yk⟩ := XR_k h hX (i := 0) (by omega)
    have v0 := XR_v hX (i := 0) (by omega)
    rw [eb] at ya v0
    have y2 : y = 2 := by
      rw [k3] at yk
      have := nI_j (by omega) (by omega) yk
      omega
    subst y2
    obtain ⟨n, n15, s1, s2⟩ := slen (vr_txt v0 ya)
    have qm := many_T (d := d + 5) (S := Sr) s2
    rw [← s1] at qm
    exact rBt1_4 (d := d + 6) bb (by omega) rfl b2 ya (by omega) rfl (by omega) qm (rpshI_T (d := d + 4) (by omega))
  · have e2 : ∀ {P T gT Q β D z nn g0 g1 g3 g4 g5 gn Sr}, XR P T gT Q β F D z nn g0 g1 g3 g4 g5 gn tq (x :: r) S Sr → ∃ y, y ≤ 4 ∧ y ≠ 2 ∧ sA Sr 91 (topC (x :: r) + offC (x :: r) - 2 + 1) = nI y := fun {P T gT Q β D z nn g0 g1 g3 g4 g5 gn Sr} hX => by
      obtain ⟨y, y4, ya, yk⟩ := XR_k h hX (i := 0) (by omega)
      rw [eb] at ya
      exact ⟨y, y4, fun c => k3 (by rw [yk, c]), ya⟩
    by_cases k12 : h_kd S o = 1 ∨ h_kd S o = 2
    · have hol : lv S o := by
        rcases o3 with e0 | h'
        · subst e0
          unfold h_kd at k12
          rw [CI_z0 h] at k12
          exact absurd k12 (by decide)
        · exact h'
      have hok := mHS_ok h.1 o hol.1 hol.2.1
      have hn3 := h_n_le hok
      have cz := sizeAt_T (d := d + 12) (S := S) (k := o) hol.1 hol.2.1
      have ez : sA S 10 o = nI (h_n S o) := by
        obtain ⟨kd', zz, _, _, k3', k10, hkd', hzz, _⟩ := kdz hok
        rw [k10]
        unfold h_n
        rw [hkd', hzz]
        split
        · rename_i c
          rcases k12 with c1 | c1
          · rw [show kd' = 1 by omega] at c; exact absurd c (by decide)
          · rw [show kd' = 2 by omega] at c; exact absurd c (by decide)
        · rfl
      rw [ez] at cz
      have hg : ∀ S', Ans (d + 14) 148 [.ref 46, .int (nI 2), .long 2305843009213693952, .long (nI (h_n S o)).toInt64] S (some (.int (nI 0))) S' → Ans (d + 15) 244 [.ref 49] S (some (.int (nI 0))) S' := fun S' hg => by
        by_cases k1 : h_kd S o = 1
        · exact goC (mLe_2 (d := d + 6) q0 qk k3 (by omega) qo (by omega) ck k1 (by omega) cz hg)
        · exact goC (mLe_3 (d := d + 6) q0 qk k3 (by omega) qo (by omega) ck k1 (by omega) ck (by omega) (by omega) cz hg)
      refine opR_intM (dg := d + 5) (nI (h_n S o)).toInt64 h (by omega) hx hi' hl (by omega) hg (fun P T gT Q β D z nn g0 g1 g3 g4 g5 gn Sr hX => goR ?_)
      obtain ⟨y, y4, yn, ya⟩ := e2 hX
      obtain ⟨is0, is1⟩ := his hX
      obtain ⟨t, v2, v3, v4, v5, v6, v7, n, m, b1, t1, t2, t108, ⟨N, tS⟩, wr, wd, wl, wj, f0, f1, fn, _, _, _⟩ := XR_o h hX hol
      by_cases k1 : h_kd S o = 1
      · obtain ⟨_, j1, j2⟩ := is1 1 (Or.inl rfl) k1
        exact rBt1_1 (d := d + 6) bb (by omega) rfl b2 ya (by omega) yn j1 t108 (j2 t t1 t2) tS f1 (by omega) (rpshI_T (d := d + 4) (by omega))
      · obtain ⟨_, j1, j2⟩ := is1 2 (Or.inr rfl) (by omega)
        exact rBt1_2 (d := d + 6) bb (by omega) rfl b2 ya (by omega) yn (is0 1 (Or.inl rfl) k1) j1 t108 (j2 t t1 t2) tS f1 (by omega) (rpshI_T (d := d + 4) (by omega))
    · refine opR_err (e := 2) h (by omega) (goC (mLe_4 (d := d + 6) q0 qk k3 (by omega) qo (by omega) ck (fun c => k12 (Or.inl c)) (by omega) ck (fun c => k12 (Or.inr c)))) (fun P T gT Q β D z nn g0 g1 g3 g4 g5 gn Sr hX => goR ?_)
      obtain ⟨y, y4, yn, ya⟩ := e2 hX
      obtain ⟨is0, is1⟩ := his hX
      exact rBt1_3 (d := d + 6) bb (by omega) rfl b2 ya (by omega) yn (is0 1 (Or.inl rfl) (fun c => k12 (Or.inl c))) (is0 2 (Or.inr rfl) (fun c => k12 (Or.inr c))) (rfail_T (d := d + 5) 2 (by omega) Sr)
end
