/-! SOUND, part 3: writes, what is made, arraycopy -/
theorem sm_fits {ty : FieldType} {v : Value} (b : Nat) (x : Nat → Nat) (h : sm_fit ty v = true) : narrow ty (sm_r b x v) = sm_r b x v ∧ fits ty (sm_r b x v) = true := by
  unfold sm_fit at h
  split at h
  · exact ⟨rfl, rfl⟩
  · exact ⟨rfl, rfl⟩
  · rename_i y
    have hy : y = 0 ∨ y = 1 := by simpa using h
    rcases hy with rfl | rfl <;> exact ⟨rfl, rfl⟩
  all_goals first
    | exact ⟨rfl, rfl⟩
    | cases h
theorem sm_arrw : ∀ t : FieldType, (t = .int ∨ t = .long ∨ t = .byte ∨ t = .boolean) → Cond.arrayClass t ∈ sm_GW := by
  intro t ht
  refine List.mem_filter.mpr ⟨sm_uw_mem sm_arrc _ ?_, rfl⟩
  rcases ht with rfl | rfl | rfl | rfl <;> simp
section SMW
variable {p : Program} {l : Launch} {e : Env} {R : Room} {s : State} {m : MethodId} {args : Array Value} {below : List Frame} {meth : Method} {c : Code} {H : Heap} {locs : List Loc} {cells slots : Nat} {Q : State → Prop}
variable {cc : ByteArray} {pc : Nat} {ls : Array Slot} {b : Nat} {x : Nat → Nat} {H0 : Heap} {D : va_G} {aC : Nat → ClassId} {X : Option (Nat × (Nat → Int32))} {σ : sm_H}
theorem sm_lc {a i : Nat} (h : ∀ q ∈ locs, b ≤ q.base) : ∀ q ∈ locs ++ [⟨b + a, i⟩], b ≤ q.base := by
  intro q hq
  rcases List.mem_append.mp hq with h1 | h1
  · exact h q h1
  · rw [List.mem_singleton.mp h1]
    exact Nat.le_add_right b a
theorem sm_w_putf (hx : p.tables.exec = Jvm.exec) (hb : c.code = cc) (G : sm_G b x H0 D aC X s) (hts : ∀ w ∈ sm_GW, w.before args s = true) {o : Nat} (hown : s.vm.findClass (sm_on o) = some m.cls) {ini : Bool} (hini : ini = true → meth.name = "<init>") (hw : sm_w b x H0 D aC σ H) (hL : ∀ q ∈ locs, b ≤ q.base)
    {k k' a ci fk ho pl : Nat} {r fs : List Value} {v : Value} (hat : sm_at mt_f o k = some (k', ci, fk, ho, pl)) (hc : σ[a]? = some (.inr (ci, fs))) (hl : fk < fs.length) (hfit : sm_fit (sm_ty ci fk) v = true) (hfin : ((sm_T ci).2.1 fk).2.2.2 = true → ini = true ∧ ho = 0 ∧ ((sm_T ci).2.1 fk).1 = sm_on o) (hdg : decode cc pc = .ok (.putfield k, 3))
    (K : ∀ (H1 : Heap) (locs1 : List Loc), sm_w b x H0 D aC (σ.set a (.inr (ci, fs.set fk v))) H1 → (∀ q ∈ locs1, b ≤ q.base) → W p l e R s m args below meth c H1 locs1 cells slots Q (F0 m (pc + 3) ls (r.map (sm_r b x)))) : W p l e R s m args below meth c H locs cells slots Q (F0 m pc ls ((v :: .ref a :: r).map (sm_r b x))) := by
  obtain ⟨-, hc1, hf1, hlk⟩ := sm_field hat
  have hin := sm_uws ci hc1
  have hK := sm_K0 G
  have hcl := sm_Tat hc1
  have hap := va_apart (own := sm_on o) hts hin (sm_ty ci) (sm_tyok ci hc1) (sm_nmok ci hc1) hK hcl
  obtain ⟨rr, h1, cell, q1, q2, q3, q4⟩ := hw.2.2 a _ hc
  have hr : rr = sm_T ci := Option.some.inj (h1.symm.trans hcl)
  subst hr
  obtain ⟨hS, hfc, kC, hkC, hkind⟩ := hK.1 ci _ hcl
  obtain ⟨cf, kf, fi, f, hi, hsl⟩ := hS fk hf1
  have hlay := hts _ (hin _ (u_in_lay hf1))
  have hst := (u_facts hfc hkC (u_lays hts hin hf1) hi).1
  obtain ⟨hn, hft⟩ := sm_fits b x hfit
  have hd := sm_tyok ci hc1 fk hf1
  have done : ∀ H1 : Heap, H1[b + a]? = some (cell.setSlot f.slot (sm_r b x v)) → H1.size = H.size → (∀ q : Nat, q ≠ b + a → H1[q]? = H[q]?) → W p l e R s m args below meth c H1 (locs ++ [⟨b + a, f.slot⟩]) cells slots Q (F0 m (pc + 3) ls (r.map (sm_r b x))) := by
    intro H1 e1 e2 e3
    refine K H1 _ (hw.set e2 e3 ⟨_, hcl, ?_⟩) (sm_lc hL)
    rw [hsl] at e1
    show t_OB (b + a) (D.1 ci) (sm_T ci).2.2 (D.2 ci) H1 (vp_V ((fs.set fk v).map (sm_r b x)))
    rw [List.map_set]
    exact t_OB.to (V := updV (vp_V (fs.map (sm_r b x))) fk (sm_r b x v)) ⟨_, e1, q2, q3, t_set q4 hap hf1 _⟩ (fun j _ => vp_updV_set (by rw [List.length_map]; exact hl) _ j)
  have hslot : f.slot < cell.slots.size := by rw [hsl]; exact k2_hasslot (q4 fk hf1)
  by_cases hfi : ((sm_T ci).2.1 fk).2.2.2 = true
  · obtain ⟨hi1, hi2, hi3⟩ := hfin hfi
    unfold u_lay at hlay
    rw [if_pos hfi] at hlay
    have hcf : m.cls = cf := by
      obtain ⟨_, _, c', _, _, _, -, -, hf', -, -, -, hown2, -⟩ := Cond.laysFinal_spec hlay
      have e1 : c' = cf := by have := hi.symm.trans hf'; simp at this; exact this.1.symm
      rw [hi3] at hown2
      rw [← e1]; exact Option.some.inj (hown.symm.trans hown2)
    have h6 := u_fits hfc hkC hkind (Or.inr hlay) hi hd hn hft
    rcases hlk with ⟨-, hlk⟩ | ⟨hz, -⟩
    · exact W.putFinK hx hb hown (hts _ hlk) hi hst hcf (hini hi1) (by rw [q2]; exact h6) q1 q3 hslot rfl rfl hdg done
    · exact absurd hi2 hz
  · unfold u_lay at hlay
    rw [if_neg hfi] at hlay
    have h6 := u_store hfc hkC hkind hlay hi hd hn hft
    rcases hlk with ⟨-, hlk⟩ | ⟨-, hlk⟩
    · exact W.putK hx hb (f := f) ⟨hown, hts _ hlk, ⟨_, _, _, hi⟩, hst⟩ (by rw [q2]; exact h6) q1 q3 hslot rfl rfl hdg done
    · exact va_WputK hx hb hown (va_Nw.use rfl (G.2.2.2.1 _ hlk rfl)) hi hst (by rw [q2]; exact h6) q1 q3 hslot rfl rfl hdg done
theorem sm_cell_i {t a n : Nat} {f : Nat → Int32} (hw : sm_w b x H0 D aC σ H) (hc : σ[a]? = some (.inl (t, n, .inl f))) : H[b + a]? = some (arrV (aC t) n (fun j => .int (f j))) := hw.2.2 a _ hc
theorem sm_upd_i {t n k : Nat} {f : Nat → Int32} (y : Int32) : (arrV (aC t) n (fun j => .int (f j))).setSlot k (.int y) = arrV (aC t) n (fun j => .int (upd f k y j)) := by
  rw [arrV_store]
  congr 1
  funext q
  by_cases hq : q = k
  · subst hq
    simp [updV, upd]
  · simp [updV, upd, hq]
theorem sm_upd_l {t n k : Nat} {f : Nat → Int64} (y : Int64) : (arrV (aC t) n (fun j => .long (f j))).setSlot k (.long y) = arrV (aC t) n (fun j => .long (vp_updL f k y j)) := by
  rw [arrV_store]
  congr 1
  funext q
  by_cases hq : q = k
  · subst hq
    simp [updV, vp_updL]
  · simp [updV, vp_updL, hq]
theorem sm_upd_q {t n k v : Nat} {f : Nat → Option Nat} : (arrV (aC t) n (fun j => va_rf (sm_qa b f j))).setSlot k (.ref (b + v)) = arrV (aC t) n (fun j => va_rf (sm_qa b (va_up f k (some v)) j)) := by
  rw [arrV_store]
  congr 1
  funext q
  by_cases hq : q = k
  · subst hq
    simp [updV, va_up, sm_qa, va_rf]
  · simp [updV, va_up, sm_qa, hq]
theorem sm_narb (y : Int32) : narrow .byte (.int y) = .int (vp_nar .byte y) := rfl
theorem sm_narz (y : Int32) : narrow .boolean (.int y) = .int (vp_nar .boolean y) := rfl
theorem sm_inA {t n : Nat} {f : Nat → Value} {j : Int32} (h : ¬ (j < 0 ∨ n ≤ j.toNatClampNeg)) : ¬ (j < 0 ∨ (arrV (aC t) n f).slots.size ≤ j.toNatClampNeg) := by rw [arrV_size]; exact h
theorem sm_wr_ok (hx : p.tables.exec = Jvm.exec) (hb : c.code = cc) (G : sm_G b x H0 D aC X s) (hts : ∀ w ∈ sm_GW, w.before args s = true) {o : Nat} (hown : s.vm.findClass (sm_on o) = some m.cls) {ini : Bool} (hini : ini = true → meth.name = "<init>") (hw : sm_w b x H0 D aC σ H) (hL : ∀ q ∈ locs, b ≤ q.base)
    {i : Instr} {k : Nat} {st st1 : List Value} {σ1 : sm_H} (h : sm_wr o ini i st σ = some (k, st1, σ1)) (hdg : decode cc pc = .ok (i, k))
    (K : ∀ (H1 : Heap) (locs1 : List Loc), sm_w b x H0 D aC σ1 H1 → (∀ q ∈ locs1, b ≤ q.base) → W p l e R s m args below meth c H1 locs1 cells slots Q (F0 m (pc + k) ls (st1.map (sm_r b x)))) : W p l e R s m args below meth c H locs cells slots Q (F0 m pc ls (st.map (sm_r b x))) := by
  unfold sm_wr at h
  split at h
  · -- putfield
    split at h
    · rename_i _ _ ci fk ho pl hat
      split at h
      · rename_i c0 fs hc
        split at h
        · rename_i hh
          obtain ⟨h1, h2, h3, h4, h5⟩ := hh
          subst h1
          cases h
          exact sm_w_putf hx hb G hts hown hini hw hL hat hc h3 h4 h5 hdg K
        · cases h
      · cases h
    · cases h
  · -- iastore
    split at h
    · rename_i t n f hc
      split at h
      · rename_i ht
        subst ht
        split at h
        · cases h
        · rename_i hin
          cases h
          refine W.iast hx hb (sm_cell_i hw hc) ((G.2.1 0 (Nat.lt_of_lt_of_le (by decide) sm_eln)).1 n _) (fun q => by cases q) (sm_inA hin) rfl rfl hdg fun H1 e z oq => ?_
          rw [sm_upd_i] at e
          exact K H1 _ (hw.set z oq e) (sm_lc hL)
      · cases h
    · cases h
  · -- lastore
    split at h
    · rename_i t n f hc
      split at h
      · rename_i ht
        subst ht
        split at h
        · cases h
        · rename_i hin
          cases h
          refine W.last hx hb (show H[b + _]? = some (arrV (aC 1) n (fun j => .long (f j))) from hw.2.2 _ _ hc) ((G.2.1 1 (Nat.lt_of_lt_of_le (by decide) sm_eln)).1 n _) (fun q => by cases q) (sm_inA hin) rfl rfl hdg fun H1 e z oq => ?_
          rw [sm_upd_l] at e
          exact K H1 _ (hw.set z oq e) (sm_lc hL)
      · cases h
    · cases h
  · -- bastore
    split at h
    · rename_i t n f hc
      split at h
      · rename_i ht
        subst ht
        split at h
        · cases h
        · rename_i hin
          cases h
          refine W.bast hx hb (sm_cell_i hw hc) ((G.2.1 2 (Nat.lt_of_lt_of_le (by decide) sm_eln)).1 n _) (fun q => by cases q) (sm_inA hin) rfl rfl hdg fun H1 e z oq => ?_
          rw [sm_narb, sm_upd_i] at e
          exact K H1 _ (hw.set z oq e) (sm_lc hL)
      · split at h
        · rename_i ht
          subst ht
          split at h
          · cases h
          · rename_i hin
            cases h
            refine W.zast hx hb (sm_cell_i hw hc) ((G.2.1 3 (Nat.lt_of_lt_of_le (by decide) sm_eln)).1 n _) (fun q => by cases q) (sm_inA hin) rfl rfl hdg fun H1 e z oq => ?_
            rw [sm_narz, sm_upd_i] at e
            exact K H1 _ (hw.set z oq e) (sm_lc hL)
        · cases h
    · cases h
  · -- aastore
    rename_i q j a r
    split at h
    · rename_i t n f c0 vs hc hv
      split at h
      · rename_i ht
        split at h
        · cases h
        · rename_i hin
          cases h
          obtain ⟨ht1, ht2, ht3⟩ := ht
          obtain ⟨kA, comp, g1, g2, g3⟩ := G.2.2.1 t ht1 (by rw [ht2]; rfl)
          have hS : sm_elS t = (sm_T c0).1 := by unfold sm_elS; rw [ht2]
          rw [hS] at g3
          have hKn := (sm_K0 G).1 c0 _ (sm_Tat ht3)
          obtain ⟨kC, hkC, hkind⟩ := hKn.2.2
          have hcomp : comp = D.1 c0 := Option.some.inj (g3.symm.trans hKn.2.1)
          subst hcomp
          obtain ⟨rr, h1, cell, q1, q2, q3, q4⟩ := hw.2.2 q _ hv
          refine W.aast hx hb (show H[b + a]? = some (arrV (aC t) n (fun j => va_rf (sm_qa b f j))) from hw.2.2 a _ hc) (fun z hz => by cases hz) (fun z => by cases z) (k := kA) (comp := D.1 c0) (t := sm_el t) g1 g2 (by rw [ht2]; rfl) hkC ⟨fun z => hin (Or.inl z), by rw [arrV_size]; exact Nat.not_le.mp fun z => hin (Or.inr z)⟩ q1 (fun z hz => by rw [q3] at hz; cases hz) (by rw [q2]; exact hkC) (by rw [q2]; exact va_assign hKn.2) rfl rfl hdg fun H1 e z oq => ?_
          rw [sm_upd_q] at e
          exact K H1 _ (hw.set z oq e) (sm_lc hL)
      · cases h
    · rename_i t n f y hc hv
      split at h
      · rename_i ht
        split at h
        · cases h
        · rename_i hin
          cases h
          obtain ⟨ht1, ht2⟩ := ht
          obtain ⟨kA, comp, g1, g2, g3⟩ := G.2.2.1 t ht1 (by rw [ht2]; rfl)
          have hS : sm_elS t = (FieldType.array .long).toString := by unfold sm_elS; rw [ht2]
          rw [hS] at g3
          have hf1 := (G.2.1 1 (Nat.lt_of_lt_of_le (by decide) sm_eln)).2
          have hcomp : comp = aC 1 := by
            have e1 : "[" ++ (sm_el 1).toString = (FieldType.array .long).toString := by rw [sm_el1]; decide +kernel
            rw [e1] at hf1
            exact Option.some.inj (g3.symm.trans hf1)
          subst hcomp
          obtain ⟨kL, hkL, -⟩ := Vm.findClass_spec hf1
          have hcv : H[b + q]? = some (vp_cell (aC 1) (sm_va b y)) := hw.2.2 q _ hv
          have hcls : (vp_cell (aC 1) (sm_va b y)).cls = aC 1 ∧ (vp_cell (aC 1) (sm_va b y)).vm = .none := by
            obtain ⟨n, f | f | f | f | f⟩ := y <;> exact ⟨rfl, rfl⟩
          refine W.aast hx hb (show H[b + a]? = some (arrV (aC t) n (fun j => va_rf (sm_qa b f j))) from hw.2.2 a _ hc) (fun z hz => by cases hz) (fun z => by cases z) (k := kA) (comp := aC 1) (t := sm_el t) g1 g2 (by rw [ht2]; rfl) hkL ⟨fun z => hin (Or.inl z), by rw [arrV_size]; exact Nat.not_le.mp fun z => hin (Or.inr z)⟩ hcv (fun z hz => by rw [hcls.2] at hz; cases hz) (by rw [hcls.1]; exact hkL) (by rw [hcls.1]; exact va_asg _ _) rfl rfl hdg fun H1 e z oq => ?_
          rw [sm_upd_q] at e
          exact K H1 _ (hw.set z oq e) (sm_lc hL)
      · cases h
    · cases h
  · cases h
theorem sm_dflt (ty : FieldType) : sm_r b x (defaultValue ty) = defaultValue ty := by cases ty <;> rfl
theorem sm_newr (ci : Nat) : (sm_new ci).map (sm_r b x) = sm_new ci := by
  unfold sm_new
  rw [List.map_map]
  apply List.map_congr_left
  intro k _
  exact sm_dflt _
theorem sm_newV (ci : Nat) {j : Nat} (hj : j < (sm_T ci).2.2) : defaultValue (sm_ty ci j) = vp_V (sm_new ci) j := by
  unfold vp_V sm_new
  rw [List.getD_eq_getElem?_getD, List.getElem?_map, List.getElem?_range hj]
  rfl
theorem sm_nw {o k k' ci : Nat} {tl : Nat × Nat × Nat} (h : sm_at mt_n o k = some (k', ci, tl)) : ci < mt_cl.length ∧ Cond.classLink (sm_on o) k (sm_T ci).1 ∈ sm_GW ∧ Cond.instantiable (sm_T ci).1 (sm_T ci).2.2 ∈ sm_GW ∧ Cond.initialized (sm_T ci).1 ∈ sm_GW := by
  obtain ⟨h1, h2⟩ := sm_at_mem h
  have h3 := sm_row sm_nchk h1
  have h4 := List.map_inj_left.mp (sm_nwok_all o) _ h1
  simp only [decide_eq_true_eq] at h3
  simp only [Prod.mk.injEq] at h4
  dsimp only at h2 h3
  subst h2
  exact ⟨h3, List.mem_filter.mpr ⟨List.mem_of_getElem? h4.1, by first | rfl | simp [goodWord, Cond.onTables, Cond.keeps, Cond.steady]⟩, List.mem_filter.mpr ⟨List.mem_of_getElem? h4.2.1, by first | rfl | simp [goodWord, Cond.onTables, Cond.keeps, Cond.steady]⟩, List.mem_filter.mpr ⟨List.mem_of_getElem? h4.2.2, by first | rfl | simp [goodWord, Cond.onTables, Cond.keeps, Cond.steady]⟩⟩
theorem sm_aor {ty : FieldType} (h : ty.isReference = true) : sm_ao (.arrayOver ty) = true := by
  cases ty <;> first | rfl | cases h
theorem sm_aw {o k k' t : Nat} {tl : Nat × Nat} (h : sm_at mt_a o k = some (k', t, tl)) : t < mt_el.length ∧ (sm_el t).isReference = true ∧ Cond.classLink (sm_on o) k (sm_elS t) ∈ sm_GW ∧ Cond.arrayOver (sm_el t) ∈ lw_tbl := by
  obtain ⟨h1, h2⟩ := sm_at_mem h
  have h3 := sm_row sm_achk h1
  have h4 := List.map_inj_left.mp (sm_awok_all o) _ h1
  simp only [Bool.and_eq_true, decide_eq_true_eq] at h3
  simp only [Prod.mk.injEq] at h4
  dsimp only at h2 h3
  subst h2
  exact ⟨h3.1, h3.2, List.mem_filter.mpr ⟨List.mem_of_getElem? h4.1, by first | rfl | simp [goodWord, Cond.onTables, Cond.keeps, Cond.steady]⟩, List.mem_of_getElem? h4.2⟩
/-- what is made: the world grows by one cell -/
theorem sm_mk_ok (hx : p.tables.exec = Jvm.exec) (hb : c.code = cc) (G : sm_G b x H0 D aC X s) (hts : ∀ w ∈ sm_GW, w.before args s = true) {o : Nat} (hown : s.vm.findClass (sm_on o) = some m.cls) (hw : sm_w b x H0 D aC σ H)
    {i : Instr} {k u u1 : Nat} {st st1 : List Value} {σ1 : sm_H} (h : sm_mk o i st σ u = some (k, st1, σ1, u1)) (hdg : decode cc pc = .ok (i, k)) (hcells : cells + 1 ≤ R.cells) (hslots : slots + (u1 - u) ≤ R.slots)
    (K : ∀ H1 : Heap, sm_w b x H0 D aC σ1 H1 → W p l e R s m args below meth c H1 locs (cells + 1) (slots + (u1 - u)) Q (F0 m (pc + k) ls (st1.map (sm_r b x)))) : W p l e R s m args below meth c H locs cells slots Q (F0 m pc ls (st.map (sm_r b x))) := by
  have hsz := hw.1
  unfold sm_mk at h
  split at h
  · -- new
    split at h
    · rename_i k1 ci tl hat
      cases h
      obtain ⟨hc1, w1, w2, w3⟩ := sm_nw hat
      have hcl := sm_Tat hc1
      have hKn := G.1 ci _ hcl
      rw [Nat.add_sub_cancel_left] at hslots K
      refine W.newcK hx hb hown (hts _ w1) (hts _ w2) (hts _ w3) rfl hdg hcells hslots hKn.2.1 rfl fun H1 kC hkC e1 z1 o1 => ?_
      have hat1 : va_at D mt_cl (b + σ.length, sm_e b x aC (.inr (ci, sm_new ci))) H1 := by
        refine ⟨_, hcl, ?_⟩
        show t_OB (b + σ.length) (D.1 ci) (sm_T ci).2.2 (D.2 ci) H1 (vp_V ((sm_new ci).map (sm_r b x)))
        rw [sm_newr, ← hsz]
        exact (u_born (sm_ty ci) hts (sm_uws ci hc1) hKn hkC e1 (sm_tyok ci hc1)).to (fun j hj => sm_newV ci hj)
      have hK := K H1 (hw.push z1 o1 hat1)
      rw [show List.map (sm_r b x) (Value.ref σ.length :: _) = Value.ref (b + σ.length) :: _ from rfl, ← hsz] at hK
      exact hK
    · cases h
  · -- newarray
    rename_i ty n r
    split at h
    · rename_i t hnt
      split at h
      · cases h
      · rename_i hn
        cases h
        rw [Nat.add_sub_cancel_left] at hslots K
        have hn0 : ¬ n < 0 := fun z => hn (Or.inl z)
        have hn1 : n.toNatClampNeg ≤ 67108864 := Nat.not_lt.mp fun z => hn (Or.inr z)
        have hty : newarray.typeOf ty = sm_el t ∧ t < 4 ∧ Cond.arrayClass (newarray.typeOf ty) ∈ sm_GW ∧ n.toNatClampNeg * componentBytes (newarray.typeOf ty) ≤ 536870912 := by
          unfold sm_newt at hnt
          split at hnt <;> first
            | (cases hnt; refine ⟨rfl, by decide, sm_arrw _ (by decide), ?_⟩; simp [newarray.typeOf, componentBytes]; omega)
            | cases hnt
        obtain ⟨t1, t2, t3, t4⟩ := hty
        have ht : t < mt_el.length := Nat.lt_of_lt_of_le t2 sm_eln
        refine va_newaK hx hb (hts _ t3) rfl hdg rfl hn0 rfl t4 hcells hslots rfl fun H1 cA e1 z1 o1 hAr hNm => ?_
        rw [t1] at hNm e1
        have hcA : cA = aC t := Option.some.inj (hNm.symm.trans (G.2.1 t ht).2)
        subst hcA
        have hat1 : va_at D mt_cl (b + σ.length, sm_e b x aC (.inl (t, n.toNatClampNeg, if t = 1 then .inr (.inl (fun _ => 0)) else .inl (fun _ => 0)))) H1 := by
          rw [hsz] at e1
          rcases (show t = 0 ∨ t = 1 ∨ t = 2 ∨ t = 3 by omega) with rfl | rfl | rfl | rfl <;> exact e1
        have hK := K H1 (hw.push z1 o1 hat1)
        rw [show List.map (sm_r b x) (Value.ref σ.length :: r) = Value.ref (b + σ.length) :: r.map (sm_r b x) from rfl, ← hsz] at hK
        exact hK
    · cases h
  · -- anewarray
    rename_i kk n r
    split at h
    · rename_i k1 t tl hat
      split at h
      · cases h
      · rename_i hn
        cases h
        obtain ⟨ht, hr, w1, w2⟩ := sm_aw hat
        rw [Nat.add_sub_cancel_left] at hslots K
        have hn0 : ¬ n < 0 := fun z => hn (Or.inl z)
        have hn1 : n.toNatClampNeg * 4 ≤ 536870912 := by
          have : n.toNatClampNeg ≤ 67108864 := Nat.not_lt.mp fun z => hn (Or.inr z)
          omega
        have hover : (Cond.arrayOver (sm_el t)).before args s = true := sm_ao_args (sm_aor hr) (G.2.2.2.2.2.2.2.2 _ w2 (sm_aor hr))
        have hfin : ∀ cA : ClassId, s.vm.findClass ("[" ++ (sm_el t).toString) = some cA → W p l e R s m args below meth c (H.push { cls := cA, slots := Array.replicate n.toNatClampNeg .null, vm := .none }) locs (cells + 1) (slots + n.toNatClampNeg) Q (F0 m (pc + 3) ls (.ref H.size :: r.map (sm_r b x))) := by
          intro cA hNm
          have hcA : cA = aC t := Option.some.inj (hNm.symm.trans (G.2.1 t ht).2)
          subst hcA
          generalize hH1 : H.push ({ cls := aC t, slots := Array.replicate n.toNatClampNeg .null, vm := .none } : Cell) = H1
          have z1 : H1.size = H.size + 1 := by rw [← hH1, Array.size_push]
          have e1 : H1[H.size]? = some (arrV (aC t) n.toNatClampNeg (fun _ => .null)) := by rw [← hH1, Array.getElem?_push_size, ← arrV_new]
          have o1 : ∀ q : Nat, q < H.size → H1[q]? = H[q]? := fun q hq => by rw [← hH1, Array.getElem?_push, if_neg (Nat.ne_of_lt hq)]
          rw [hsz] at e1
          have hK := K H1 (hw.push z1 o1 e1)
          rw [show List.map (sm_r b x) (Value.ref σ.length :: r) = Value.ref (b + σ.length) :: r.map (sm_r b x) from rfl, ← hsz] at hK
          exact hK
        generalize hel : sm_el t = ty at *
        unfold sm_elS at w1
        rw [hel] at w1
        cases ty with
        | object C => exact W.anew hx hb hown (hts _ w1) hover rfl hdg rfl hn0 hn1 hcells hslots fun cA kA comp f1 f2 f3 f4 => hfin cA f1
        | array ty => exact W.anewA hx hb hown (hts _ w1) hover rfl hdg rfl hn0 hn1 hcells hslots fun cA kA comp f1 f2 f3 f4 => hfin cA f1
        | _ => cases hr
    · cases h
  · cases h
end SMW
