/-! SOUND, part 2: reads -/
section SMR
variable {p : Program} {l : Launch} {e : Env} {R : Room} {s : State} {m : MethodId} {args : Array Value} {below : List Frame} {meth : Method} {c : Code} {H : Heap} {locs : List Loc} {cells slots : Nat} {Q : State → Prop}
variable {cc : ByteArray} {pc : Nat} {ls : Array Slot} {b : Nat} {x : Nat → Nat} {H0 : Heap} {D : va_G} {aC : Nat → ClassId} {X : Option (Nat × (Nat → Int32))} {σ : sm_H}
theorem sm_inI {j : Int32} {n : Nat} (h : ¬ (j < 0 ∨ n ≤ j.toNatClampNeg)) : vp_in j n := h
theorem sm_elR : ∀ t, t < mt_el.length → 4 ≤ t → (sm_el t).isReference = true := by decide +kernel
theorem sm_el0 : sm_el 0 = .int := rfl
theorem sm_el1 : sm_el 1 = .long := rfl
theorem sm_el2 : sm_el 2 = .byte := rfl
theorem sm_el3 : sm_el 3 = .boolean := rfl
theorem sm_eln : 4 ≤ mt_el.length := by decide +kernel
theorem sm_r_getf (hx : p.tables.exec = Jvm.exec) (hb : c.code = cc) (G : sm_G b x H0 D aC X s) (hts : ∀ w ∈ sm_GW, w.before args s = true) {o : Nat} (hown : s.vm.findClass (sm_on o) = some m.cls) (hw : sm_w b x H0 D aC σ H)
    {k k' a ci fk ho pl : Nat} {r fs : List Value} {v : Value} (hat : sm_at mt_f o k = some (k', ci, fk, ho, pl)) (hc : σ[a]? = some (.inr (ci, fs))) (hv : fs[fk]? = some v) (hdg : decode cc pc = .ok (.getfield k, 3))
    (K : W p l e R s m args below meth c H locs cells slots Q (F0 m (pc + 3) ls ((v :: r).map (sm_r b x)))) : W p l e R s m args below meth c H locs cells slots Q (F0 m pc ls ((.ref a :: r).map (sm_r b x))) := by
  obtain ⟨-, hc1, hf1, hl⟩ := sm_field hat
  have hv' : (fs.map (sm_r b x))[fk]? = some (sm_r b x v) := by rw [List.getElem?_map, hv]; rfl
  rcases hl with ⟨-, hl⟩ | ⟨-, hl⟩
  · exact va_get hx hb hts (sm_uws ci hc1) hown (sm_K0 G) (hw.P hc) 0 rfl (sm_Tat hc1) fk hf1 (hts _ hl) (fun y h => h) hv' hdg K
  · exact va_getN hx hb hts (sm_uws ci hc1) hown (sm_K0 G) (hw.P hc) 0 rfl (sm_Tat hc1) fk hf1 (va_Nw.use rfl (G.2.2.2.1 _ hl rfl)) (fun y h => h) hv' hdg K
/-- a text by the wide form -/
theorem sm_ldcWS (hexec : p.tables.exec = Jvm.exec) (hb : c.code = cc) {own tx : String} {index q : Nat} (hown : s.vm.findClass own = some m.cls) (hZ : vk_R own index tx q s) (hdg : decode cc pc = .ok (.ldc_w index, 3)) {rest : List Value}
    (k : W p l e R s m args below meth c H locs cells slots Q (F0 m (pc + 3) ls (.ref q :: rest))) : W p l e R s m args below meth c H locs cells slots Q (F0 m pc ls rest) := by
  intro T hT X
  obtain ⟨t, a1, b1⟩ := k T hT X
  obtain ⟨kk, cf, i, a', hk, hcf, hcp, -, hr, hev'⟩ := Cond.stringRef_spec hown hZ.1
  cases hZ.2.symm.trans hev'
  obtain ⟨k', hk', he⟩ := X.warmed.alike.2.2 _ _ hk
  have hr' : k'.resolved[index]? = some (some (.string q)) := by
    rcases X.warmed.entry hk hk' index with h | ⟨h, -⟩
    · rw [h]; exact hr
    · rw [hr] at h; cases h
  refine ⟨t, ?_, b1⟩
  have hdg' : decode c.code (F0 m pc ls rest).pc = .ok (.ldc_w index, 3) := by rw [hb]; exact hdg
  jvm_step X.here [hexec, hdg', Op.ldc_w.wp_string (e := e) (s := T) (f := F0 m pc ls rest) X.here.top hk' (by rw [he]; exact hcf) hcp hr']
  exact a1
theorem sm_cichk : True := trivial
theorem sm_ci {o k k' : Nat} {v : Int32} {pl : Nat} (h : sm_at mt_ci o k = some (k', v, pl)) : Cond.constant (sm_on o) k v ∈ sm_GW := by
  obtain ⟨h1, h2⟩ := sm_at_mem h
  have h4 := List.map_inj_left.mp (sm_ciok_all o) _ h1
  dsimp only at h2 h4
  subst h2
  exact List.mem_filter.mpr ⟨List.mem_of_getElem? h4, by first | rfl | simp [goodWord, Cond.onTables, Cond.keeps, Cond.steady]⟩
theorem sm_cj {o k k' : Nat} {v : Int64} {pl : Nat} (h : sm_at mt_cj o k = some (k', v, pl)) : Cond.constantLong (sm_on o) k v ∈ sm_GW := by
  obtain ⟨h1, h2⟩ := sm_at_mem h
  have h4 := List.map_inj_left.mp (sm_cjok_all o) _ h1
  dsimp only at h2 h4
  subst h2
  exact List.mem_filter.mpr ⟨List.mem_of_getElem? h4, by first | rfl | simp [goodWord, Cond.onTables, Cond.keeps, Cond.steady]⟩
/-- the links of statics and of a text's fields: every entry's word, told by its place -/
def sm_gw (o : Nat) (e : Nat × Value × Nat × Nat) : Cond := .fieldLink (sm_on o) e.1 (sm_gs e.2.2.1).1 (sm_gs e.2.2.1).2.1 (sm_gs e.2.2.1).2.2
theorem sm_gwok : ((List.range mt_gs.length).all fun o => (mt_gs.getD o []).all fun e => decide (lw_tbl[e.2.2.2]? = some (sm_gw o e))) = true := by decide +kernel
def sm_xn (q : Nat) : String × String := match q with
  | 0 => ("value", "[B")
  | _ => ("coder", "B")
def sm_xw (o : Nat) (e : Nat × Nat × Nat) : Cond := .fieldLink (sm_on o) e.1 "java/lang/String" (sm_xn e.2.1).1 (sm_xn e.2.1).2
theorem sm_xwok : ((List.range mt_xs.length).all fun o => (mt_xs.getD o []).all fun e => decide (lw_tbl[e.2.2]? = some (sm_xw o e))) = true := by decide +kernel
theorem sm_rowR {α : Type} {tb : List (List α)} {P : Nat → α → Bool} (h : ((List.range tb.length).all fun o => (tb.getD o []).all fun e => P o e) = true) {o : Nat} {e : α} (he : e ∈ tb.getD o []) : P o e = true := by
  by_cases ho : o < tb.length
  · exact List.all_eq_true.mp (List.all_eq_true.mp h o (List.mem_range.mpr ho)) e he
  · rw [List.getD_eq_getElem?_getD, List.getElem?_eq_none (Nat.le_of_not_lt ho)] at he
    cases he
theorem sm_cschk : (mt_cs.all fun r => r.all fun e => decide (e.2.1 < mt_sb.length)) = true := by decide +kernel
theorem sm_base {q : Nat} {cell : Cell} (hw : sm_w b x H0 D aC σ H) (h : H0[q]? = some cell) (hq : ¬ b ≤ q) : H[q]? = some cell := by
  rw [hw.2.1 q (by omega)]
  exact h
theorem sm_qeven {q : Nat} (h : q % 2 = 0) : 2 * (q / 2) = q := by omega
theorem sm_sbl : mt_sb.length < 50000 := by decide +kernel
theorem sm_strs : ∀ o e, e ∈ mt_cs.getD o [] → e.2.1 < mt_sb.length := fun o e he => of_decide_eq_true (sm_row (P := fun e => decide (e.2.1 < mt_sb.length)) sm_cschk he)
theorem sm_qodd {q : Nat} (h : q % 2 = 1) : 2 * (q / 2) + 1 = q := by omega
theorem sm_rd_ok (hx : p.tables.exec = Jvm.exec) (hb : c.code = cc) (G : sm_G b x H0 D aC X s) (hts : ∀ w ∈ sm_GW, w.before args s = true) {o : Nat} (hown : s.vm.findClass (sm_on o) = some m.cls) (hw : sm_w b x H0 D aC σ H)
    {i : Instr} {k : Nat} {st st1 : List Value} (h : sm_rd X o i st σ = some (k, st1)) (hdg : decode cc pc = .ok (i, k))
    (K : W p l e R s m args below meth c H locs cells slots Q (F0 m (pc + k) ls (st1.map (sm_r b x)))) : W p l e R s m args below meth c H locs cells slots Q (F0 m pc ls (st.map (sm_r b x))) := by
  unfold sm_rd at h
  split at h
  · -- getfield
    split at h
    · rename_i _ _ _ _ ci fk tl hat
      obtain ⟨ho, pl⟩ := tl
      split at h
      · rename_i c0 fs hc
        split at h
        · rename_i hci
          subst hci
          obtain ⟨v, hv, h1⟩ := Option.map_eq_some_iff.mp h
          cases h1
          exact sm_r_getf hx hb G hts hown hw hat hc hv hdg K
        · cases h
      · cases h
    · cases h
  · -- iaload
    split at h
    · rename_i t n f hc
      split at h
      · rename_i ht
        subst ht
        split at h
        · cases h
        · rename_i hin
          cases h
          exact va_iald hx hb (sm_K1 G (t := 0) (Nat.lt_of_lt_of_le (by decide) sm_eln)) (hw.P hc) 0 0 rfl rfl hin hdg K
      · cases h
    · cases h
  · -- laload
    split at h
    · rename_i t n f hc
      split at h
      · rename_i ht
        subst ht
        split at h
        · cases h
        · rename_i hin
          cases h
          exact va_lald hx hb (sm_K1 G (t := 1) (Nat.lt_of_lt_of_le (by decide) sm_eln)) (hw.P hc) 0 0 rfl rfl hin hdg K
      · cases h
    · cases h
  · -- baload
    split at h
    · rename_i t n f hc
      split at h
      · rename_i ht
        split at h
        · cases h
        · rename_i hin
          cases h
          rcases ht with ht | ht
          · subst ht
            exact va_bald hx hb (sm_K1 G (t := 2) (Nat.lt_of_lt_of_le (by decide) sm_eln)) (hw.P hc) 0 0 rfl rfl hin hdg K
          · subst ht
            exact va_zald hx hb (sm_K1 G (t := 3) (Nat.lt_of_lt_of_le (by decide) sm_eln)) (hw.P hc) 0 0 rfl rfl hin hdg K
      · cases h
    · cases h
  · -- aaload
    rename_i j a r
    split at h
    · rename_i t n f hc
      split at h
      · rename_i ht
        split at h
        · cases h
        · rename_i hin
          cases h
          have hlt : j.toNatClampNeg < n := Nat.not_le.mp fun q => hin (Or.inr q)
          have hcell : H[b + a]? = some (vp_cell (aC t) (n, .inr (.inr (.inr (.inr (sm_qa b f)))))) := hw.2.2 a _ hc
          refine W.aald (v := va_rf (sm_qa b f j.toNatClampNeg)) (ty := sm_el t) hx hb hcell ((G.2.1 t ht.2).1 n (fun j => va_rf (sm_qa b f j))) (sm_elR t ht.2 ht.1) (fun q => by cases q) (by show ¬ (j < 0 ∨ (arrV _ _ _).slots.size ≤ _); rw [arrV_size]; exact hin) (by show (arrV _ _ _).slots[_]? = _; rw [arrV_read _ _ hlt]) rfl rfl hdg ?_
          rw [show va_rf (sm_qa b f j.toNatClampNeg) = sm_r b x (va_rf (f j.toNatClampNeg)) from sm_rrf b x _]
          exact K
      · cases h
    · cases h
  · -- arraylength
    split at h
    · rename_i t y hc
      split at h
      · rename_i ht
        cases h
        exact va_alen (x := sm_va b y) hx hb (sm_K1 G (t := t) ht) (hw.P hc) 0 0 rfl rfl (by rw [sm_va1]) hdg K
      · cases h
    · cases h
  · -- ldc
    split at h
    · rename_i hat
      cases h
      exact lv_ldc hx hb hown (hts _ (sm_ci hat)) hdg K
    · split at h
      · rename_i k1 q tl hat
        cases h
        obtain ⟨h1, h2⟩ := sm_at_mem hat
        have h3 := G.2.2.2.2.2.1 o _ h1
        dsimp only at h2 h3
        rw [h2] at h3
        have hq := sm_strs o _ h1
        have hl := sm_sbl
        dsimp only at hq
        rw [List.map_cons, sm_rR (by omega)] at K
        exact va_ldcS hx hb hown h3 hdg K
      · cases h
  · -- ldc_w
    split at h
    · rename_i hat
      cases h
      exact lv_ldcw hx hb hown (hts _ (sm_ci hat)) hdg K
    · split at h
      · rename_i k1 q tl hat
        cases h
        obtain ⟨h1, h2⟩ := sm_at_mem hat
        have h3 := G.2.2.2.2.2.1 o _ h1
        dsimp only at h2 h3
        rw [h2] at h3
        have hq := sm_strs o _ h1
        have hl := sm_sbl
        dsimp only at hq
        rw [List.map_cons, sm_rR (by omega)] at K
        exact sm_ldcWS hx hb hown h3 hdg K
      · cases h
  · -- ldc2_w
    split at h
    · rename_i hat
      cases h
      exact lv_ldc2 hx hb hown (hts _ (sm_cj hat)) hdg K
    · cases h
  · -- getstatic
    split at h
    · rename_i k1 v tl hat
      cases h
      obtain ⟨h1, h2⟩ := sm_at_mem hat
      have h3 := G.2.2.2.2.2.2.2.1 o _ h1
      have h4 : lw_tbl[tl.2]? = some (sm_gw o (k1, v, tl)) := of_decide_eq_true (sm_rowR sm_gwok h1)
      dsimp only at h2 h3
      subst h2
      have h5 : sm_gw o (k1, v, tl) ∈ sm_GW := List.mem_filter.mpr ⟨List.mem_of_getElem? h4, by unfold sm_gw; first | rfl | simp [goodWord, Cond.onTables, Cond.keeps, Cond.steady]⟩
      obtain ⟨cf, kf, fi, f, a, cell, g1, g2, g3, g4, g5, g6, g7, g8⟩ := h3
      exact W.gets hx hb hown (hts _ h5) g1 g2 g3 g4 (sm_base hw g5 g8) (fun e => by rw [e] at g6; cases g6) g7 rfl hdg K
    · cases h
  · -- a text's fields
    rename_i kk q r
    split at h
    · rename_i k1 tl hat
      split at h
      · rename_i hq
        cases h
        obtain ⟨h1, h2⟩ := sm_at_mem hat
        have h4 : lw_tbl[tl]? = some (sm_xw o (k1, 0, tl)) := of_decide_eq_true (sm_rowR sm_xwok h1)
        dsimp only at h2
        subst h2
        have h5 : sm_xw o (k1, 0, tl) ∈ sm_GW := List.mem_filter.mpr ⟨List.mem_of_getElem? h4, by unfold sm_xw; first | rfl | simp [goodWord, Cond.onTables, Cond.keeps, Cond.steady]⟩
        obtain ⟨-, -, hV, -⟩ := G.2.2.2.2.1 (q / 2) (by omega)
        obtain ⟨cf, kf, fi, f, cell, g1, g2, g3, g4, g5, g6⟩ := hV
        have hq2 := sm_qeven hq.1
        dsimp only at g3 g5 g6
        rw [hq2] at g3 g5 g6
        have hlb := sm_sbl
        rw [List.map_cons, sm_rR (by omega)] at K ⊢
        exact W.getf hx hb hown (hts _ h5) g1 g2 (sm_base hw g3 g6) g4 g5 rfl rfl hdg K
      · cases h
    · rename_i k1 tl hat
      split at h
      · rename_i hq
        cases h
        obtain ⟨h1, h2⟩ := sm_at_mem hat
        have h4 : lw_tbl[tl]? = some (sm_xw o (k1, 1, tl)) := of_decide_eq_true (sm_rowR sm_xwok h1)
        dsimp only at h2
        subst h2
        have h5 : sm_xw o (k1, 1, tl) ∈ sm_GW := List.mem_filter.mpr ⟨List.mem_of_getElem? h4, by unfold sm_xw; first | rfl | simp [goodWord, Cond.onTables, Cond.keeps, Cond.steady]⟩
        obtain ⟨-, hV, -, -⟩ := G.2.2.2.2.1 (q / 2) (by omega)
        obtain ⟨cf, kf, fi, f, cell, g1, g2, g3, g4, g5, g6⟩ := hV
        have hq2 := sm_qeven hq.1
        dsimp only at g3 g5 g6
        rw [hq2] at g3 g6
        have hlb := sm_sbl
        rw [List.map_cons, sm_rR (by omega)]
        exact W.getf hx hb hown (hts _ h5) g1 g2 (sm_base hw g3 g6) g4 g5 rfl rfl hdg K
      · cases h
    · cases h
  · -- arraylength of the script, of a text's bytes
    rename_i q r
    split at h
    · rename_i hq
      subst hq
      split at h
      · rename_i Y
        cases h
        obtain ⟨hY, hlt⟩ := G.2.2.2.2.2.2.1
        obtain ⟨scr, g1, g2, g3, g4, g5⟩ := hY Y rfl
        rw [List.map_cons, sm_rR (by decide)]
        exact W.alen hx hb (sm_base hw g1 (by omega)) g2 (by rw [g4] <;> rfl) rfl rfl hdg K
      · cases h
    · split at h
      · rename_i hq
        cases h
        obtain ⟨-, -, -, hV⟩ := G.2.2.2.2.1 (q / 2) (by omega)
        obtain ⟨cell, g1, g2, g3, g4, g5, g6, g7⟩ := hV
        have hq2 := sm_qodd hq.1
        dsimp only at g1 g7
        rw [hq2] at g1 g7
        have hlen : (mt_sb.map List.length).getD (q / 2) 0 = (mt_sb.getD (q / 2) []).length := by
          rw [List.getD_eq_getElem?_getD, List.getD_eq_getElem?_getD, List.getElem?_map]
          cases mt_sb[q / 2]? <;> rfl
        rw [hlen] at g5
        have hlb := sm_sbl
        rw [List.map_cons, sm_rR (by omega)]
        exact W.alen hx hb (sm_base hw g1 g7) g2 g5 rfl rfl hdg K
      · cases h
  · -- a text's byte
    rename_i j q r
    split at h
    · rename_i hq
      split at h
      · cases h
      · rename_i hin
        cases h
        obtain ⟨-, -, -, hV⟩ := G.2.2.2.2.1 (q / 2) (by omega)
        obtain ⟨cell, g1, g2, g3, g4, g5, g6, g7⟩ := hV
        have hq2 := sm_qodd hq.1
        dsimp only at g1 g7
        rw [hq2] at g1 g7
        have hlen : (mt_sb.map List.length).getD (q / 2) 0 = (mt_sb.getD (q / 2) []).length := by
          rw [List.getD_eq_getElem?_getD, List.getD_eq_getElem?_getD, List.getElem?_map]
          cases mt_sb[q / 2]? <;> rfl
        rw [hlen] at g4 g6
        have hlb := sm_sbl
        rw [List.map_cons, List.map_cons, sm_rR (by omega)]
        exact W.bald hx hb (sm_base hw g1 g7) g2 g3 (fun z => by rcases z with z | z; exact hin (Or.inl z); exact hin (Or.inr (Nat.le_trans g4 z))) (g6 _ (Nat.not_le.mp fun z => hin (Or.inr z))) rfl rfl hdg K
    · cases h
  · -- the script
    rename_i j q r
    split at h
    · rename_i hq
      subst hq
      split at h
      rotate_left
      · cases h
      rename_i Y
      split at h
      · cases h
      · rename_i hin
        cases h
        obtain ⟨hY, hlt⟩ := G.2.2.2.2.2.2.1
        obtain ⟨scr, g1, g2, g3, g4, g5⟩ := hY Y rfl
        rw [List.map_cons, List.map_cons, sm_rR (by decide)]
        exact W.iald hx hb (sm_base hw g1 (by omega)) g2 g3 (by rw [g4]; exact hin) (g5 _ (Nat.not_le.mp fun z => hin (Or.inr z))) rfl rfl hdg K
    · cases h
  · cases h
end SMR
