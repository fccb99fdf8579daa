/-! DEEDS ON BOTH SIDES: where an item or a key is, in the reference; items read -/
section
variable {P : Nat → Prop} {T : cS} {gT : Nat} {Q : Nat → Prop} {β : Nat → Nat} {F : Nat → Nat → Nat → Prop} {loc par : Nat → Nat → Nat} {ty : Nat → Nat × Nat} {G : Nat → Nat → Nat → Nat × Nat × LL → Prop} {D K : List Nat} {z nn g0 g1 g3 g4 g5 gn d d' v o t tp i ob_ kb : Nat} {tq : Nat → Nat × Nat} {C r : List Lv} {x : Lv} {s' : Nat × Nat × LL} {Sc Sr S S' W : cS} {hi lo kh kl a b w : Int64} {kd : Int32}
/-- is it a thing of this kind -/
theorem isT_T {k e kq : Nat} (hk : k < 20480) (hq : kq ≤ 7) (he : sA S 91 k = nI e) (e4 : e ≤ 4) : (e ≠ 3 → Ans (d + 9) 363 [.ref 61, .int (nI k), .int (nI kq)] S (some (.int 0)) S) ∧ (∀ g N n0, e = 3 → sL S 92 k = lN o → o < 1500 → sQ S 86 o = some g → 108 ≤ g → (sS S)[g - 108]? = some (13, N) → sI S (100 * g + 0) = nI n0 → n0 ≤ 7 → (n0 = kq → Ans (d + 9) 363 [.ref 61, .int (nI k), .int (nI kq)] S (some (.int 1)) S) ∧ (n0 ≠ kq → Ans (d + 9) 363 [.ref 61, .int (nI k), .int (nI kq)] S (some (.int 0)) S)) := by
  have m := ml_363
  have go : ∀ {v : Option Value}, Bod (d + 8) 363 0 [(0, .ref 61), (1, .int (nI k)), (2, .int (nI kq))] [] S v S → Ans (d + 9) 363 [.ref 61, .int (nI k), .int (nI kq)] S v S := fun h => Ans.of (by rw [m]; exact Nat.le_of_ble_eq_true rfl) (Bod.lv (by rfl) h)
  refine ⟨fun c => go (rIt_1 (e91 := e) (by omega) (by omega) hk he (by omega) c), fun g N n0 e3 ha ho hq' hg hs h0 n7 => ⟨fun c => go (rIt_3 (e91 := e) (o := o) (by omega) (by omega) hk he (by omega) e3 (by rw [ha, lN_i]) ho hg hq' hs h0 (by omega) c), fun c => go (rIt_2 (e91 := e) (o := o) (by omega) (by omega) hk he (by omega) e3 (by rw [ha, lN_i]) ho hg hq' hs h0 (by omega) c)⟩⟩
/-- the reference's side of loc_C, where there is a list or dict: the key lies at k -/
theorem loc_T {k e : Nat} (hok : h_ok S o) (hk2 : k < 20480) (e4 : e ≤ 4) (ea : sA Sr 91 k = nI e) (ek : c_kind hi = nI (e + 1)) (hv : vrel β hi lo (sA Sr 91 k) (sL Sr 92 k) (sL Sr 93 k)) {q : Sum Nat Nat} (hq : lcQ S o hi lo q) (hk : h_kd S o = 1 ∨ h_kd S o = 2) (hob : obR β F S Sr g0 g1 nn o) (ht : sQ Sr 86 (β o) = some t) (ok : tOk Sr (β o) t) : Ans (d + 12) 410 [.ref 61, .ref t, .int (nI k)] Sr (some (.int (lcV q))) (lcW q Sr) := by
  have m := ml_410
  obtain ⟨t1, t2, N, t3⟩ := tOk_t ok
  obtain ⟨kd, zz, k7, z3, k3, k10, hkd, hzz, hw⟩ := kdz hok
  have hn3 := h_n_le hok
  have okk := ok
  obtain ⟨v2, v3, v4, v5, v6, v7, n, m', wr, wd, wl, wk⟩ := okk
  have hob' := hob
  obtain ⟨_, _, t', w2, w3, w4, w5, w6, w7, n2, m2, c1, c2, c3, c4, c5, c6, _⟩ := hob'
  have et : t' = t := by
    have := c1.1
    rw [ht] at this
    injection this with this
    exact this.symm
  subst et
  have c2' : sI Sr (100 * t' + 0) = nI kd := by rw [c2, k3]
  have go : ∀ {v : Option Value} {W : cS}, Bod (d + 11) 410 0 [(0, .ref 61), (1, .ref t'), (2, .int (nI k))] [] Sr v W → Ans (d + 12) 410 [.ref 61, .ref t', .int (nI k)] Sr v W := fun h => Ans.of (by rw [m]; exact Nat.le_of_ble_eq_true rfl) (Bod.lv (by rfl) h)
  have nn16 : ∀ {a b : Nat}, a < 16 → b < 16 → nI a = nI b → a = b := fun ha hb c => nI_j (by omega) (by omega) c
  rcases hq with ⟨c, c', _⟩ | ⟨c, ci, rfl⟩ | ⟨c, ci, rfl⟩ | ⟨c, ci, ci', rfl⟩ | ⟨c, ci, rfl, hno⟩ | ⟨c, ci, j, j1, rfl, j2, j3⟩
  · omega
  · exact go (rPq_8 (d := d + 3) (e91 := e) (by omega) t1 t3 c2' (by omega) (by omega) hk2 ea (by omega) (fun c => ci (by rw [ek, c])) (rerr_T (d := d + 2) 2 (by omega) Sr))
  · have e1 : e = 1 := by rw [ek] at ci; have := nn16 (by omega) (by omega) ci; omega
    have el : sL Sr 92 k = lo := ((vr_int hv).2 ci).2
    cases hx : ixR lo (h_n S o) with
    | some i =>
      obtain ⟨i1, i2, i3, i4⟩ := ix_some hn3 hx
      have hin := in_R (S := Sr) (d := d + 10) hn3 hx
      unfold eW at hin i4
      by_cases cu : lo < 0
      · rw [if_pos cu] at hin i4
        exact go (rPq_4 (d := d + 3) (e91 := e) (by omega) t1 t3 c2' (by omega) (by omega) hk2 ea (by omega) e1 (by rw [el]; exact lg_ge.2 cu) (by rw [el, c3, nI_ll (by omega)]; exact hin) (by rw [el, c3, nI_ll (by omega), i4, lN_i]) (by omega))
      · rw [if_neg cu] at hin i4
        exact go (rPq_1 (d := d + 3) (e91 := e) (by omega) t1 t3 c2' (by omega) (by omega) hk2 ea (by omega) e1 (by rw [el]; exact lg_ge.1 cu) (by rw [el, c3]; exact hin) (by rw [el, i4, lN_i]) (by omega))
    | none =>
      have hin := in_N (S := Sr) (d := d + 10) hn3 hx
      unfold eW at hin
      by_cases cu : lo < 0
      · rw [if_pos cu] at hin
        exact go (rPq_6 (d := d + 3) (e91 := e) (by omega) t1 t3 c2' (by omega) (by omega) hk2 ea (by omega) e1 (by rw [el]; exact lg_ge.2 cu) (by rw [el, c3, nI_ll (by omega)]; exact hin) (rerr_T (d := d + 2) 3 (by omega) Sr))
      · rw [if_neg cu] at hin
        exact go (rPq_3 (d := d + 3) (e91 := e) (by omega) t1 t3 c2' (by omega) (by omega) hk2 ea (by omega) e1 (by rw [el]; exact lg_ge.1 cu) (by rw [el, c3]; exact hin) (rerr_T (d := d + 2) 3 (by omega) Sr))
  · have m403 := ml_403
    have n1 : e ≠ 1 := fun c => ci (by rw [ek, c])
    have n2' : e ≠ 2 := fun c => ci' (by rw [ek, c])
    exact go (rPq_16 (d := d + 3) (by omega) t1 t3 c2' (by omega) (by omega) (Ans.of (by rw [m403]; exact Nat.le_of_ble_eq_true rfl) (Bod.lv (by rfl) (rIk_2 (d := d + 2) (e91 := e) (by omega) hk2 ea (by omega) n1 n2'))) (rerr_T (d := d + 2) 2 (by omega) Sr))
  all_goals
    have m403 := ml_403
    have e12 : e = 1 ∨ e = 2 := by
      rw [ek] at ci
      rcases ci with c | c
      · left; have := nn16 (by omega) (by omega) c; omega
      · right; have := nn16 (by omega) (by omega) c; omega
    have hwid : c_width (h_kd S o) = 4 := by rw [c]; rfl
    obtain ⟨d1, d2⟩ := c6 hwid
    have ew : w3 = v3 ∧ w6 = v6 ∧ w7 = v7 ∧ m2 = m' := by
      obtain ⟨_, _, _, _, x3, _, _, x6, x7, _, kk2, _, _, _, _, _, _, _, gg3, _⟩ := c1
      obtain ⟨_, _, _, _, y3, _, _, y6, y7, _, jj2, _, _, _, _, _, _, _, hh3, _⟩ := wr
      have a3 : w3 = v3 := by rw [x3] at y3; injection y3
      refine ⟨a3, by rw [x6] at y6; injection y6, by rw [x7] at y7; injection y7, ?_⟩
      have u1 := (isK_at kk2 gg3).2.1
      have u2 := (isK_at jj2 hh3).2.1
      rw [a3] at u1
      omega
    obtain ⟨rfl, rfl, rfl, rfl⟩ := ew
    have hkey : ∀ j, j < h_n S o → ((h_kh S o j = hi ∧ h_kl S o j = lo) ↔ kyE Sr w3 w6 w7 (nI e) (sL Sr 92 k) (if e = 1 then 0 else sL Sr 93 k) j) := fun j hj => by
      have := d2 j hj
      rw [c] at this
      rw [ea] at hv
      exact key_iff this hv rfl e12
    have hkr : ∀ j, j < h_n S o → ∃ e, e < 2 ^ 20 ∧ sA Sr w3 j = nI e := fun j hj => wk j (by omega)
    have hK : Ans (d + 11) 403 [.ref 61, .int (nI k)] Sr (some (.int 1)) Sr := by
      rcases e12 with e1 | e2
      · exact Ans.of (by rw [m403]; exact Nat.le_of_ble_eq_true rfl) (Bod.lv (by rfl) (rIk_1 (d := d + 2) (e91 := e) (by omega) hk2 ea (by omega) e1))
      · exact Ans.of (by rw [m403]; exact Nat.le_of_ble_eq_true rfl) (Bod.lv (by rfl) (rIk_3 (d := d + 2) (e91 := e) (by omega) hk2 ea (by omega) (by omega) e2))
  · have hf := rfind_miss (d := d + 2) (kd := nI e) (xa := sL Sr 92 k) (xb := if e = 1 then 0 else sL Sr 93 k) wr c3 d1 hkr (fun j hj cc => hno j hj ((hkey j hj).mpr cc))
    by_cases e1 : e = 1
    · rw [if_pos e1] at hf
      exact go (rPq_14 (d := d + 3) (e91 := e) (by omega) t1 t3 c2' (by omega) (by omega) hK hk2 ea (by omega) e1 hf t3 (rerr_T (d := d + 2) 4 (by omega) Sr))
    · rw [if_neg e1] at hf
      exact go (rPq_11 (d := d + 3) (e91 := e) (by omega) t1 t3 c2' (by omega) (by omega) hK hk2 ea (by omega) e1 hf t3 (rerr_T (d := d + 2) 4 (by omega) Sr))
  · have hf := rfind_hit (d := d + 2) (kd := nI e) (xa := sL Sr 92 k) (xb := if e = 1 then 0 else sL Sr 93 k) wr c3 d1 hkr j1 ((hkey j j1).mp j2) (fun i hi cc => j3 i hi ((hkey i (by omega)).mpr cc))
    by_cases e1 : e = 1
    · rw [if_pos e1] at hf
      exact go (rPq_12 (d := d + 3) (e91 := e) (by omega) t1 t3 c2' (by omega) (by omega) hK hk2 ea (by omega) e1 (by omega) hf t3)
    · rw [if_neg e1] at hf
      exact go (rPq_9 (d := d + 3) (e91 := e) (by omega) t1 t3 c2' (by omega) (by omega) hK hk2 ea (by omega) e1 (by omega) hf t3)
end
