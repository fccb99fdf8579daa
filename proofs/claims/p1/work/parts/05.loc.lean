/-! SOUND, part 1: what touches the stack, the locals and the place alone -/
/-- a value of the function's cells as the machine has it: b is where they begin, x what stood there before -/
def sm_r (b : Nat) (x : Nat → Nat) : Value → Value
  | .ref a => .ref (b + a)
  | .retAddr k => if k = 100001 then (if x k = 0 then .null else .ref (x k - 1)) else .ref (x k)
  | v => v
theorem sm_rcat (b : Nat) (x : Nat → Nat) (v : Value) : (sm_r b x v).category = v.category := by
  cases v with
  | retAddr k =>
    show (if k = 100001 then (if x k = 0 then Value.null else .ref (x k - 1)) else .ref (x k)).category = 1
    split
    · split <;> rfl
    · rfl
  | _ => rfl
theorem sm_rR {b : Nat} {x : Nat → Nat} {k : Nat} (h : ¬ k = 100001) : sm_r b x (.retAddr k) = .ref (x k) := if_neg h
abbrev sm_lr (b : Nat) (x : Nat → Nat) (lv : sm_L) : sm_L := lv.map (fun q => (q.1, sm_r b x q.2))
theorem sm_cats (b : Nat) (x : Nat → Nat) (r : List Value) : ((r.map (sm_r b x)).map fun v => v.category).sum = (r.map fun v => v.category).sum := by
  rw [List.map_map]
  congr 1
  apply List.map_congr_left
  intro v _
  exact sm_rcat b x v
theorem sm_get_at {ls : Array Slot} {nL b i : Nat} {x : Nat → Nat} {lv : sm_L} {v : Value} (hl : lv_has ls nL (sm_lr b x lv)) (h : sm_get lv i = some v) : ls[i]? = some (.val (sm_r b x v)) := by
  unfold sm_get at h
  obtain ⟨q, hq, rfl⟩ := Option.map_eq_some_iff.mp h
  have h1 := List.mem_of_find?_eq_some hq
  have h2 : q.1 = i := by simpa using List.find?_some hq
  have h3 := hl.2.2 (q.1, sm_r b x q.2) (List.mem_map.mpr ⟨q, h1, rfl⟩)
  rw [← h2]
  exact h3
theorem sm_get_ix {b i : Nat} {x : Nat → Nat} {lv : sm_L} {v : Value} (h : sm_get lv i = some v) : ∃ k : Nat, (sm_lr b x lv)[k]? = some (i, sm_r b x v) := by
  unfold sm_get at h
  obtain ⟨q, hq, rfl⟩ := Option.map_eq_some_iff.mp h
  have h1 := List.mem_of_find?_eq_some hq
  have h2 : q.1 = i := by simpa using List.find?_some hq
  have h3 : (i, sm_r b x q.2) ∈ sm_lr b x lv := List.mem_map.mpr ⟨q, h1, by rw [h2]⟩
  exact List.getElem?_of_mem h3
theorem sm_p1r (b : Nat) (x : Nat → Nat) (lv : sm_L) (i : Nat) (v : Value) : (i, sm_r b x v) :: (sm_lr b x lv).filter (fun q => !(q.1 == i) && !(q.1 + 1 == i && q.2.category == 2)) = sm_lr b x (sm_p1 lv i v) := by
  unfold sm_p1 sm_lr
  rw [List.filter_map]
  simp only [List.map_cons, Function.comp_def, sm_rcat]
theorem sm_p2r (b : Nat) (x : Nat → Nat) (lv : sm_L) (i : Nat) (v : Value) : (i, sm_r b x v) :: (sm_lr b x lv).filter (fun q => !(q.1 == i) && (!(q.1 == i + 1) && !(q.1 + 1 == i && q.2.category == 2))) = sm_lr b x (sm_p2 lv i v) := by
  unfold sm_p2 sm_lr
  rw [List.filter_map]
  simp only [List.map_cons, Function.comp_def, sm_rcat]
theorem sm_tg_ok {pc : Nat} {off : Int} {t : Nat} (h : sm_tg pc off = some t) : (pc : Int) + off = (t : Int) := by
  unfold sm_tg at h
  split at h
  · rename_i q hq
    cases h
    exact hq
  · cases h
section SMS
variable {p : Program} {l : Launch} {e : Env} {R : Room} {s : State} {m : MethodId} {args : Array Value} {below : List Frame} {meth : Method} {c : Code} {H : Heap} {locs : List Loc} {cells slots : Nat} {Q : State → Prop}
variable {cc : ByteArray} {pc : Nat} {ls : Array Slot} {b : Nat} {x : Nat → Nat}
theorem sm_ops_ok (hx : p.tables.exec = Jvm.exec) (hb : c.code = cc) {i : Instr} {k : Nat} {st st1 : List Value} (h : sm_ops i st = some (k, st1)) (hdg : decode cc pc = .ok (i, k))
    (K : W p l e R s m args below meth c H locs cells slots Q (F0 m (pc + k) ls (st1.map (sm_r b x)))) : W p l e R s m args below meth c H locs cells slots Q (F0 m pc ls (st.map (sm_r b x))) := by
  unfold sm_ops at h
  split at h
  all_goals try (split at h)
  all_goals cases h
  · exact lv_iconst hx hb hdg rfl K
  · exact lv_bipush hx hb hdg rfl K
  · exact lv_sipush hx hb hdg rfl K
  · exact lv_lconst hx hb hdg rfl K
  · exact lv_null hx hb hdg K
  · exact lv_iadd hx hb hdg K
  · exact lv_isub hx hb hdg K
  · exact lv_imul hx hb hdg K
  · exact lv_iand hx hb hdg K
  · exact lv_ior hx hb hdg K
  · exact lv_idiv hx hb hdg (by assumption) K
  · exact lv_irem hx hb hdg (by assumption) K
  · exact lv_ineg hx hb hdg K
  · exact lv_ishl hx hb hdg K
  · exact lv_ishr hx hb hdg K
  · exact lv_iushr hx hb hdg rfl K
  · exact lv_ladd hx hb hdg K
  · exact lv_lsub hx hb hdg K
  · exact lv_lmul hx hb hdg K
  · exact lv_land hx hb hdg K
  · exact lv_lor hx hb hdg K
  · exact lv_lxor hx hb hdg K
  · exact lv_ldiv hx hb hdg (by assumption) K
  · exact lv_lrem hx hb hdg (by assumption) K
  · exact lv_lneg hx hb hdg K
  · exact lv_lshl hx hb hdg rfl K
  · exact lv_lshr hx hb hdg rfl K
  · exact lv_lushr hx hb hdg rfl K
  · exact W.lcmp hx hb hdg K
  · exact lv_i2l hx hb hdg rfl K
  · exact lv_l2i hx hb hdg rfl K
  · exact lv_i2b hx hb hdg rfl K
  · exact lv_i2c hx hb hdg rfl K
  · exact lv_dup hx hb hdg (by rw [sm_rcat]; assumption) K
  · exact lv_pop hx hb hdg (by rw [sm_rcat]; assumption) K
  · rename_i hv
    exact lv_dup2_11 hx hb hdg (by rw [sm_rcat]; exact hv.1) (by rw [sm_rcat]; exact hv.2) K
  · rename_i hv
    exact lv_dup_x1 hx hb hdg (by rw [sm_rcat]; exact hv.1) (by rw [sm_rcat]; exact hv.2) K
theorem sm_loc_ok (hx : p.tables.exec = Jvm.exec) (hb : c.code = cc) {nL : Nat} {i : Instr} {k : Nat} {lv lv1 : sm_L} {st st1 : List Value} (h : sm_loc nL i lv st = some (k, lv1, st1)) (hdg : decode cc pc = .ok (i, k)) (hl : lv_has ls nL (sm_lr b x lv))
    (K : ∀ ls1 : Array Slot, lv_has ls1 nL (sm_lr b x lv1) → W p l e R s m args below meth c H locs cells slots Q (F0 m (pc + k) ls1 (st1.map (sm_r b x)))) : W p l e R s m args below meth c H locs cells slots Q (F0 m pc ls (st.map (sm_r b x))) := by
  unfold sm_loc at h
  split at h
  all_goals try (split at h)
  all_goals try (split at h)
  all_goals cases h
  · exact lv_iload_n hx hb hdg rfl (sm_get_at hl (by assumption)) (K ls hl)
  · exact lv_iload hx hb hdg (sm_get_at hl (by assumption)) (K ls hl)
  · exact lv_lload_n hx hb hdg rfl (sm_get_at hl (by assumption)) (K ls hl)
  · exact lv_lload hx hb hdg (sm_get_at hl (by assumption)) (K ls hl)
  · exact lv_aload_n hx hb hdg rfl (sm_get_at hl (by assumption)) (K ls hl)
  · rename_i q hg hz
    have hg2 := sm_get_at hl hg
    rw [sm_rR hz] at hg2
    have hK := K ls hl
    rw [List.map_cons, sm_rR hz] at hK
    exact lv_aload_n hx hb hdg rfl hg2 hK
  · exact lv_aload_nN hx hb hdg rfl (sm_get_at hl (by assumption)) (K ls hl)
  · exact lv_aload hx hb hdg (sm_get_at hl (by assumption)) (K ls hl)
  · rename_i q hg hz
    have hg2 := sm_get_at hl hg
    rw [sm_rR hz] at hg2
    have hK := K ls hl
    rw [List.map_cons, sm_rR hz] at hK
    exact lv_aload hx hb hdg hg2 hK
  · exact lv_aloadN hx hb hdg (sm_get_at hl (by assumption)) (K ls hl)
  · exact lv_istore_n hx hb hdg rfl hl (by assumption) (sm_p1r b x lv _ (.int _)) K
  · exact lv_istore hx hb hdg hl (by assumption) (sm_p1r b x lv _ (.int _)) K
  · exact lv_lstore_n hx hb hdg rfl hl (by assumption) (sm_p2r b x lv _ (.long _)) K
  · exact lv_lstore hx hb hdg hl (by assumption) (sm_p2r b x lv _ (.long _)) K
  · exact lv_astore_n hx hb hdg rfl hl (by assumption) (sm_p1r b x lv _ (.ref _)) K
  · rename_i kk q hz
    rw [List.map_cons, sm_rR hz.2]
    have e := sm_p1r b x lv (kk : Nat) (.retAddr q)
    rw [sm_rR hz.2] at e
    exact lv_astore_n hx hb hdg rfl hl hz.1 e K
  · exact lv_astore_nN hx hb hdg rfl hl (by assumption) (sm_p1r b x lv _ .null) K
  · exact lv_astore hx hb hdg hl (by assumption) (sm_p1r b x lv _ (.ref _)) K
  · rename_i kk q hz
    rw [List.map_cons, sm_rR hz.2]
    have e := sm_p1r b x lv (kk : Nat) (.retAddr q)
    rw [sm_rR hz.2] at e
    exact lv_astore hx hb hdg hl hz.1 e K
  · exact lv_astoreN hx hb hdg hl (by assumption) (sm_p1r b x lv _ .null) K
  · rename_i hg hn
    obtain ⟨q, hq⟩ := sm_get_ix (b := b) (x := x) hg
    exact lv_iinc hx hb hdg hl hq rfl hn (sm_p1r b x lv _ (.int _)) K
theorem sm_br_ok (hx : p.tables.exec = Jvm.exec) (hb : c.code = cc) {i : Instr} {n pc1 : Nat} {st st1 : List Value} (h : sm_br i n pc st = some (pc1, st1)) (hdg : decode cc pc = .ok (i, n))
    (K : W p l e R s m args below meth c H locs cells slots Q (F0 m pc1 ls (st1.map (sm_r b x)))) : W p l e R s m args below meth c H locs cells slots Q (F0 m pc ls (st.map (sm_r b x))) := by
  unfold sm_br at h
  split at h
  · split at h
    · rename_i hn
      subst hn
      obtain ⟨t, ht, h1⟩ := Option.map_eq_some_iff.mp h
      cases h1
      exact lv_goto hx hb hdg (sm_tg_ok ht) K
    · cases h
  · split at h
    · rename_i cd _ _ _ hn
      subst hn
      obtain ⟨t, ht, h1⟩ := Option.map_eq_some_iff.mp h
      have ht := sm_tg_ok ht
      cases h1
      cases cd
      · exact lv_if_eq hx hb hdg ht (fun z => by rw [show sm_c1 .eq _ t (pc + 3) = t from if_pos z] at K; exact K) (fun z => by rw [show sm_c1 .eq _ t (pc + 3) = pc + 3 from if_neg z] at K; exact K)
      · exact lv_if_ne hx hb hdg ht (fun z => by rw [show sm_c1 .ne _ t (pc + 3) = t from if_neg z] at K; exact K) (fun z => by rw [show sm_c1 .ne _ t (pc + 3) = pc + 3 from if_pos z] at K; exact K)
      · exact lv_if_lt hx hb hdg ht (fun z => by rw [show sm_c1 .lt _ t (pc + 3) = t from if_pos z] at K; exact K) (fun z => by rw [show sm_c1 .lt _ t (pc + 3) = pc + 3 from if_neg z] at K; exact K)
      · exact lv_if_ge hx hb hdg ht (fun z => by rw [show sm_c1 .ge _ t (pc + 3) = t from if_pos z] at K; exact K) (fun z => by rw [show sm_c1 .ge _ t (pc + 3) = pc + 3 from if_neg z] at K; exact K)
      · exact lv_if_gt hx hb hdg ht (fun z => by rw [show sm_c1 .gt _ t (pc + 3) = t from if_pos z] at K; exact K) (fun z => by rw [show sm_c1 .gt _ t (pc + 3) = pc + 3 from if_neg z] at K; exact K)
      · exact lv_if_le hx hb hdg ht (fun z => by rw [show sm_c1 .le _ t (pc + 3) = t from if_pos z] at K; exact K) (fun z => by rw [show sm_c1 .le _ t (pc + 3) = pc + 3 from if_neg z] at K; exact K)
    · cases h
  · split at h
    · rename_i cd _ _ _ _ hn
      subst hn
      obtain ⟨t, ht, h1⟩ := Option.map_eq_some_iff.mp h
      have ht := sm_tg_ok ht
      cases h1
      cases cd
      · exact lv_icmp_eq hx hb hdg ht (fun z => by rw [show sm_c2 .eq _ _ t (pc + 3) = t from if_pos z] at K; exact K) (fun z => by rw [show sm_c2 .eq _ _ t (pc + 3) = pc + 3 from if_neg z] at K; exact K)
      · exact lv_icmp_ne hx hb hdg ht (fun z => by rw [show sm_c2 .ne _ _ t (pc + 3) = t from if_neg z] at K; exact K) (fun z => by rw [show sm_c2 .ne _ _ t (pc + 3) = pc + 3 from if_pos z] at K; exact K)
      · exact lv_icmp_lt hx hb hdg ht (fun z => by rw [show sm_c2 .lt _ _ t (pc + 3) = t from if_pos z] at K; exact K) (fun z => by rw [show sm_c2 .lt _ _ t (pc + 3) = pc + 3 from if_neg z] at K; exact K)
      · exact lv_icmp_ge hx hb hdg ht (fun z => by rw [show sm_c2 .ge _ _ t (pc + 3) = t from if_pos z] at K; exact K) (fun z => by rw [show sm_c2 .ge _ _ t (pc + 3) = pc + 3 from if_neg z] at K; exact K)
      · exact lv_icmp_gt hx hb hdg ht (fun z => by rw [show sm_c2 .gt _ _ t (pc + 3) = t from if_pos z] at K; exact K) (fun z => by rw [show sm_c2 .gt _ _ t (pc + 3) = pc + 3 from if_neg z] at K; exact K)
      · exact lv_icmp_le hx hb hdg ht (fun z => by rw [show sm_c2 .le _ _ t (pc + 3) = t from if_pos z] at K; exact K) (fun z => by rw [show sm_c2 .le _ _ t (pc + 3) = pc + 3 from if_neg z] at K; exact K)
    · cases h
  · split at h
    · rename_i hn
      subst hn
      cases h
      exact lv_ifnull hx hb hdg K
    · cases h
  · split at h
    · rename_i hn
      subst hn
      obtain ⟨t, ht, h1⟩ := Option.map_eq_some_iff.mp h
      cases h1
      exact lv_ifnullN hx hb hdg (sm_tg_ok ht) K
    · cases h
  · split at h
    · rename_i hn
      subst hn
      obtain ⟨t, ht, h1⟩ := Option.map_eq_some_iff.mp h
      cases h1
      exact lv_ifnonnull hx hb hdg (sm_tg_ok ht) K
    · cases h
  · split at h
    · rename_i hn
      subst hn
      cases h
      exact lv_ifnonnullN hx hb hdg K
    · cases h
  · split at h
    · rename_i hs
      obtain ⟨t, ht, h1⟩ := Option.map_eq_some_iff.mp h
      cases h1
      exact lv_lookup hx hb hdg hs rfl (sm_tg_ok ht) K
    · cases h
  · split at h
    · rename_i hs
      obtain ⟨t, ht, h1⟩ := Option.map_eq_some_iff.mp h
      cases h1
      exact lv_tableOut hx hb hdg hs (sm_tg_ok ht) K
    · rename_i hs
      split at h
      · rename_i off ho
        obtain ⟨t, ht, h1⟩ := Option.map_eq_some_iff.mp h
        cases h1
        exact lv_tableIn hx hb hdg (fun z => hs (Or.inl z)) (fun z => hs (Or.inr z)) ho (sm_tg_ok ht) K
      · cases h
  · cases h
end SMS
