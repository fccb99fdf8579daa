/-! CALLS ON BOTH SIDES: what is built in, by its number (227 | 380) -/
section
variable {F : Nat → Nat → Nat → Prop} {loc par : Nat → Nat → Nat} {ty : Nat → Nat × Nat} {G : Nat → Nat → Nat → Nat × Nat × LL → Prop} {d jc jc' jr jr' gv i s bn e : Nat} {ac ac' ar ar' : List Value} {tq : Nat → Nat × Nat} {r : List Lv} {x : Lv} {S S' : cS} {l' : List (Nat × Nat)} {s' : Nat × Nat × LL}
/-- a deed inside another, on both sides -/
theorem opR_in {d' : Nat} (h : opR F loc par ty G tq d jc ac jr ar x r s' S) (hc : ∀ {e : Nat} {S'}, Ans d jc ac S (some (.int (nI e))) S' → Ans d' jc' ac' S (some (.int (nI e))) S') (hr : ∀ {e : Nat} {Sr W}, e = 0 ∨ e = 1 → Ans d jr ar Sr (some (.int (nI e))) W → Ans d' jr' ar' Sr (some (.int (nI e))) W) : opR F loc par ty G tq d' jc' ac' jr' ar' x r s' S := by
  rcases h with ⟨S', h1, h2, h3, h4⟩ | ⟨e, S', he, h1, h2, h3, h4⟩
  · refine Or.inl ⟨S', hc h1, h2, h3, fun P T gT Q β D z nn g0 g1 g3 g4 g5 gn Sr hX => ?_⟩
    obtain ⟨Q', β', D', nn', b0, b1, b3, b4, b5, bn', W, q1, q2⟩ := h4 P T gT Q β D z nn g0 g1 g3 g4 g5 gn Sr hX
    exact ⟨Q', β', D', nn', b0, b1, b3, b4, b5, bn', W, hr (Or.inr rfl) q1, q2⟩
  · refine Or.inr ⟨e, S', he, hc h1, h2, h3, fun P T gT Q β D z nn g0 g1 g3 g4 g5 gn Sr hX => ?_⟩
    obtain ⟨Q', β', D', nn', b0, b1, b3, b4, b5, bn', W, q1, q2, q3⟩ := h4 P T gT Q β D z nn g0 g1 g3 g4 g5 gn Sr hX
    exact ⟨Q', β', D', nn', b0, b1, b3, b4, b5, bn', W, hr (Or.inl rfl) q1, q2, q3⟩
/-- a call of what is built in -/
def btR (F : Nat → Nat → Nat → Prop) (loc par : Nat → Nat → Nat) (ty : Nat → Nat × Nat) (G : Nat → Nat → Nat → Nat × Nat × LL → Prop) (tq : Nat → Nat × Nat) (d bn gv : Nat) (x : Lv) (r : List Lv) (s' : Nat × Nat × LL) (S : cS) : Prop := opR F loc par ty G tq (d + 20) 227 [.ref 49, .int (nI (bn + 1)), .int (nI gv)] 380 [.ref 61, .int (nI bn), .int (nI (topC (x :: r) + offC (x :: r) - 1 - gv)), .int (nI gv)] x r s' S
/-- with a wrong number of values -/
theorem bt_bad (h : CI F loc par ty G tq (x :: r) S) (hg : gv < 2 ^ 20) (hb : (bn ∈ [1, 4, 5, 6, 7] ∧ gv ≠ 1) ∨ (bn = 2 ∧ gv ≠ 1 ∧ gv ≠ 2) ∨ (bn = 3 ∧ gv ≠ 2) ∨ ((bn = 8 ∨ bn = 9) ∧ gv ≠ 0)) : btR F loc par ty G tq d bn gv x r s' S := by
  have m227 := ml_227
  have m380 := ml_380
  have hT := CI_T h
  have hba : topC (x :: r) + offC (x :: r) - 1 - gv < 2 ^ 20 := by omega
  have hf : ∀ Sr, Ans (d + 19) 351 [.ref 61, .int (nI 2)] Sr (some (.int (nI 0))) (wI 6164 (nI 2) Sr) := fun Sr => rfail_T (d := d + 10) 2 (by omega) Sr
  have goC : Bod (d + 19) 227 0 [(0, .ref 49), (1, .int (nI (bn + 1))), (2, .int (nI gv))] [] S (some (.int (nI 2))) S → Ans (d + 20) 227 [.ref 49, .int (nI (bn + 1)), .int (nI gv)] S (some (.int (nI 2))) S := fun hb => Ans.of (by rw [m227]; exact Nat.le_of_ble_eq_true rfl) (Bod.lv (by rfl) hb)
  have goR : (∀ Sr, Bod (d + 19) 380 0 [(0, .ref 61), (1, .int (nI bn)), (2, .int (nI (topC (x :: r) + offC (x :: r) - 1 - gv))), (3, .int (nI gv))] [] Sr (some (.int 0)) (wI 6164 (nI 2) Sr)) → Bod (d + 19) 227 0 [(0, .ref 49), (1, .int (nI (bn + 1))), (2, .int (nI gv))] [] S (some (.int (nI 2))) S → btR F loc par ty G tq d bn gv x r s' S := fun hr hc => opR_err h (by omega) (goC hc) (fun P T gT Q β D z nn g0 g1 g3 g4 g5 gn Sr hX => Ans.of (by rw [m380]; exact Nat.le_of_ble_eq_true rfl) (Bod.lv (by rfl) (hr Sr)))
  simp only [List.mem_cons, List.not_mem_nil, or_false] at hb
  rcases hb with ⟨c | c | c | c | c, g⟩ | ⟨c, g, g'⟩ | ⟨c, g⟩ | ⟨c | c, g⟩
  · subst c; exact goR (fun Sr => rBt1_5 (d := d + 11) hba hg g (hf Sr)) (mBa2_2 (d := d + 11) hg g)
  · subst c; exact goR (fun Sr => rBt4_4 (d := d + 11) hba hg g (hf Sr)) (mBa5_2 (d := d + 11) hg g)
  · subst c; exact goR (fun Sr => rBt5_4 (d := d + 11) hba hg g (hf Sr)) (mBa6_2 (d := d + 11) hg g)
  · subst c; exact goR (fun Sr => rBt6_3 (d := d + 11) hba hg g (hf Sr)) (mBa7_2 (d := d + 11) hg g)
  · subst c; exact goR (fun Sr => rBt7_3 (d := d + 11) hba hg g (hf Sr)) (mBa8_2 (d := d + 11) hg g)
  · subst c; exact goR (fun Sr => rBt2_3 (d := d + 11) hba hg g' g (hf Sr)) (mBa3_2 (d := d + 11) hg g g')
  · subst c; exact goR (fun Sr => rBt3_4 (d := d + 11) hba hg g (hf Sr)) (mBa4_2 (d := d + 11) hg g)
  · subst c; exact goR (fun Sr => rBt8_2 (d := d + 11) hba hg g (hf Sr)) (mBa9_2 (d := d + 11) hg g)
  · subst c; exact goR (fun Sr => rBt9_2 (d := d + 11) hba hg g (hf Sr)) (mBa10_2 (d := d + 11) hg g)
/-- len, range, push, pop, keys and alive -/
theorem bt_ok (h : CI F loc par ty G tq (x :: r) S) (hx : vL x = ((i, 1) :: l', s)) (hi : vH x = i + 1 + gv) (h6 : vH x ≤ 599) (hl : lob (l', s) ≤ i) (hb : bn ∈ [1, 2, 3, 4, 5, 8]) : btR F loc par ty G tq d bn gv x r (i + 1, vU x, (l', s)) S := by
  have m227 := ml_227
  have m380 := ml_380
  have hT := CI_T h
  have hg : gv < 2 ^ 20 := by omega
  have hba : topC (x :: r) + offC (x :: r) - 1 - gv < 2 ^ 20 := by omega
  have goC : ∀ {e : Nat} {S'}, Bod (d + 19) 227 0 [(0, .ref 49), (1, .int (nI (bn + 1))), (2, .int (nI gv))] [] S (some (.int (nI e))) S' → Ans (d + 20) 227 [.ref 49, .int (nI (bn + 1)), .int (nI gv)] S (some (.int (nI e))) S' := fun hb => Ans.of (by rw [m227]; exact Nat.le_of_ble_eq_true rfl) (Bod.lv (by rfl) hb)
  have goR : ∀ {b : Int32} {Sr W}, Bod (d + 19) 380 0 [(0, .ref 61), (1, .int (nI bn)), (2, .int (nI (topC (x :: r) + offC (x :: r) - 1 - gv))), (3, .int (nI gv))] [] Sr (some (.int b)) W → Ans (d + 20) 380 [.ref 61, .int (nI bn), .int (nI (topC (x :: r) + offC (x :: r) - 1 - gv)), .int (nI gv)] Sr (some (.int b)) W := fun hb => Ans.of (by rw [m380]; exact Nat.le_of_ble_eq_true rfl) (Bod.lv (by rfl) hb)
  have es : ∀ k, k = gv + 1 → (vH x - k + 1, vU x, (l', s)) = (i + 1, vU x, (l', s)) := fun k hk => by rw [show vH x - k + 1 = i + 1 by omega]
  simp only [List.mem_cons, List.not_mem_nil, or_false] at hb
  rcases hb with c | c | c | c | c | c
  · subst c
    by_cases g : gv = 1
    · have hd := len_R (d := d) h hx (by omega) (by omega)
      rw [es 2 (by omega)] at hd
      have et : topC (x :: r) + offC (x :: r) - 2 = topC (x :: r) + offC (x :: r) - 1 - gv := by omega
      rw [et] at hd
      subst g
      exact opR_in hd (fun hA => goC (mBa2_1 (d := d + 11) hg rfl (hA.up (by omega)))) (fun _ hA => hA.up (by omega))
    · exact bt_bad h hg (Or.inl ⟨by simp, g⟩)
  · subst c
    by_cases g : gv = 1
    · have hd := rng1_R (d := d) h hx (by omega) (by omega)
      rw [es 2 (by omega)] at hd
      have et : topC (x :: r) + offC (x :: r) - 2 = topC (x :: r) + offC (x :: r) - 1 - gv := by omega
      rw [et] at hd
      subst g
      refine opR_in hd (fun hA => goC (mBa3_1 (d := d + 11) hg rfl (hA.up (by omega)))) (fun {e Sr W} he hA => goR ?_)
      rcases he with c | c
      · subst c
        exact rBt2_2 (d := d + 11) hba hg (by omega) rfl (hA.up (by omega))
      · subst c
        exact rBt2_1 (d := d + 11) hba hg (by omega) rfl (hA.up (by omega))
    · by_cases g' : gv = 2
      · have hd := rng2_R (d := d) h hx (by omega) (by omega)
        rw [es 3 (by omega)] at hd
        have et : topC (x :: r) + offC (x :: r) - 3 = topC (x :: r) + offC (x :: r) - 1 - gv := by omega
        rw [et] at hd
        subst g'
        refine opR_in hd (fun hA => goC (mBa3_3 (d := d + 11) hg g rfl (hA.up (by omega)))) (fun {e Sr W} he hA => goR ?_)
        rcases he with c | c
        · subst c
          exact rBt2_5 (d := d + 11) hba hg rfl (hA.up (by omega))
        · subst c
          exact rBt2_4 (d := d + 11) hba hg rfl (hA.up (by omega))
      · exact bt_bad h hg (Or.inr (Or.inl ⟨rfl, g, g'⟩))
  · subst c
    by_cases g : gv = 2
    · have hd := push_R (d := d) h hx (by omega) (by omega)
      rw [es 3 (by omega)] at hd
      have et : topC (x :: r) + offC (x :: r) - 3 = topC (x :: r) + offC (x :: r) - 1 - gv := by omega
      rw [et] at hd
      subst g
      exact opR_in hd (fun hA => goC (mBa4_1 (d := d + 11) hg rfl (hA.up (by omega)))) (fun _ hA => hA.up (by omega))
    · exact bt_bad h hg (Or.inr (Or.inr (Or.inl ⟨rfl, g⟩)))
  · subst c
    by_cases g : gv = 1
    · have hd := pop_R (d := d) h h6 hx (by omega) (by omega)
      rw [es 2 (by omega)] at hd
      have et : topC (x :: r) + offC (x :: r) - 2 = topC (x :: r) + offC (x :: r) - 1 - gv := by omega
      rw [et] at hd
      subst g
      exact opR_in hd (fun hA => goC (mBa5_1 (d := d + 11) hg rfl (hA.up (by omega)))) (fun _ hA => hA.up (by omega))
    · exact bt_bad h hg (Or.inl ⟨by simp, g⟩)
  · subst c
    by_cases g : gv = 1
    · have hd := keys_R (d := d) h hx (by omega) (by omega)
      rw [es 2 (by omega)] at hd
      have et : topC (x :: r) + offC (x :: r) - 2 = topC (x :: r) + offC (x :: r) - 1 - gv := by omega
      rw [et] at hd
      subst g
      exact opR_in hd (fun hA => goC (mBa6_1 (d := d + 11) hg rfl (hA.up (by omega)))) (fun _ hA => hA.up (by omega))
    · exact bt_bad h hg (Or.inl ⟨by simp, g⟩)
  · subst c
    by_cases g : gv = 0
    · have hd := alive_R (d := d) h (by omega) hx (by omega) (by omega)
      rw [es 1 (by omega)] at hd
      have et : topC (x :: r) + offC (x :: r) - 1 = topC (x :: r) + offC (x :: r) - 1 - gv := by omega
      rw [et] at hd
      subst g
      exact hd
    · exact bt_bad h hg (Or.inr (Or.inr (Or.inr ⟨Or.inl rfl, g⟩)))
end
