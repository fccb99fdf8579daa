/-! SOUND, part 7: what the function answers is what the machine does: a contract for every call that it can walk -/
theorem sm_ofW {l : Launch} {y : MethodName} {ws ws' : List Cond} {rm : Room} {Pc : Array Value → State → Prop} {Qc : Array Value → State → Outcome → State → Prop} {mc ms : Nat} {free : Addr → Prop} {cc : ByteArray} {maxL : Nat} {ret : Option FieldType}
    (hy : plainFor y = true) (hw : ws = Cond.code y cc maxL ret :: ws')
    (body : ∀ p e s m args below meth c s₁, BodyLoose p l y (headSpec ws rm) cc maxL ret e s m args below meth c s₁ → c.maxLocals = maxL → Pc args s →
      W p l e (headSpec ws rm).room s m args below meth c s.heap [] 0 0 (MQ below Qc args s mc ms free) (entryFrame m args maxL)) : Met l y ws rm Pc Qc mc ms free := by
  refine MetFree.of_bodySF (code := cc) (maxLocals := maxL) (ret := ret) hy ?_ ?_
  · intro args s m h hn
    obtain ⟨meth, c, h1, h2, h3, h4, h5, h6, -, -⟩ := Cond.code_spec hn (atoms_spec (ws := ws) h _ (by rw [hw]; exact List.mem_cons_self))
    exact ⟨meth, c, h1, h2, h3, h4, h5, h6⟩
  · intro p e s m args below meth c s₁ B hml hP _
    have hh0 : s₁.heap = s.heap := by rw [B.state]; rfl
    obtain ⟨t, a1, o, b1, b2, b3⟩ := body p e s m args below meth c s₁ B hml hP s₁ hh0 (Stand.of_body B)
    exact ⟨t, o, a1, b1, b2, ⟨b3.1, b3.2⟩⟩
theorem sm_lvargs (b : Nat) (x : Nat → Nat) : ∀ (as : List Value) (i : Nat), lv_args i (as.map (sm_r b x)) = sm_lr b x (lv_args i as) := by
  intro as
  induction as with
  | nil => intro i; rfl
  | cons v as ih =>
    intro i
    show (i, sm_r b x v) :: lv_args (if (sm_r b x v).category = 2 then i + 2 else i + 1) (as.map (sm_r b x)) = _
    rw [sm_rcat, ih]
    rfl
theorem sm_lgsl (b : Nat) (x : Nat → Nat) : ∀ as : List Value, (lg_sl (as.map (sm_r b x))).length = (lg_sl as).length := by
  intro as
  induction as with
  | nil => rfl
  | cons v as ih =>
    unfold lg_sl at ih ⊢
    rw [List.map_cons, List.flatMap_cons, List.flatMap_cons, List.length_append, List.length_append, ih, sm_rcat]
    congr 1
    by_cases h : v.category = 2
    · rw [if_pos h, if_pos h]; rfl
    · rw [if_neg h, if_neg h]; rfl
theorem sm_ev_ok {l : Launch} {b : Nat} {x : Nat → Nat} {H0 : Heap} {D : va_G} {aC : Nat → ClassId} {X : Option (Nat × (Nat → Int32))} : ∀ (d n j : Nat) (as : List Value) (σ : sm_H) (u : Nat) (v : Option Value) (σ1 : sm_H) (u1 : Nat), j < mt_m.length → sm_ev X d n j as σ u = some (v, σ1, u1) → sm_Met l b x H0 D aC X d j as σ u v σ1 u1 := by
  intro d
  induction d with
  | zero => intro n j as σ u v σ1 u1 _ h; cases h
  | succ d ih =>
    intro n j as σ u v σ1 u1 hj h
    have hmono := sm_ev_mono _ _ _ _ _ _ _ _ _ h
    unfold sm_ev at h
    split at h
    · rename_i hlen
      obtain ⟨m1, m2, m3, m4, m5, m6, m7, m8, m9, m10⟩ := sm_meth hj
      unfold sm_Met
      refine sm_ofW (cc := sm_cc j) (maxL := sm_ml j) (ret := sm_rt j) m5 rfl ?_
      intro p e s m args below meth c s₁ B hml hP
      obtain ⟨rfl, hw, G⟩ := hP
      have hts0 := atoms_spec (ws := sm_WS j) B.pre
      have hts : ∀ w ∈ sm_GW, w.before _ s = true := fun w hw => hts0 w (List.mem_cons_of_mem _ hw)
      have hown : s.vm.findClass (sm_on (sm_ow j)) = some m.cls := by
        rw [← m8]
        exact findClass_of_methodNamed B.named
      have hname : meth.name = (sm_y j).name := (name_of_methodNamed B.named B.method).1
      have hl := lv_entry (as.map (sm_r b x)) (n := sm_ml j) (by rw [sm_lgsl]; exact hlen)
      rw [sm_lvargs] at hl
      rw [lg_entry_eq]
      refine sm_run_ok (n0 := σ.length) (u0 := u) (j := j) (d := d) (fun j1 as σ u v σ1 u1 h => sm_ev_mono d n j1 as σ u v σ1 u1 h) (fun j1 as σ u v σ1 u1 hj h => ih n j1 as σ u v σ1 u1 hj h) B.exec B.bytes hml G hts hown ?_ hw.1 (Nat.le_refl (d + 1)) (Nat.le_refl (100 * (d + 1))) ?_ ?_ ?_ n 0 (lv_args 0 as) [] σ u s.heap [] _ 0 0 h hw (fun q hq => by cases hq) hl rfl rfl
      · intro hi
        rw [hname]
        unfold sm_ini at hi
        simpa using hi
      · show σ1.length ≤ σ.length + (σ1.length - σ.length)
        omega
      · show u1 ≤ u + (u1 - u)
        omega
      · intro pc i st H locs ls hd hq hw1 hL
        exact sm_end_ok B.exec B.bytes B.returns B.notSynchronized hq hd hw1 hL
    · cases h
