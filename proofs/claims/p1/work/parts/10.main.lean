/-! SOUND, part 5: natives, ends; a whole method, by the function -/
section SMM
variable {p : Program} {l : Launch} {e : Env} {R : Room} {s : State} {m : MethodId} {args : Array Value} {below : List Frame} {meth : Method} {c : Code} {H : Heap} {locs : List Loc} {cells slots : Nat} {Q : State → Prop}
variable {cc : ByteArray} {pc : Nat} {ls : Array Slot} {b : Nat} {x : Nat → Nat} {H0 : Heap} {D : va_G} {aC : Nat → ClassId} {X : Option (Nat × (Nat → Int32))} {σ : sm_H}
theorem sm_sz {g : JFrame} (k : H.size ≤ s.heap.size + cells → W p l e R s m args below meth c H locs cells slots Q g) : W p l e R s m args below meth c H locs cells slots Q g :=
  fun T hT X => k (hT ▸ X.heapSize) T hT X
def sm_ws (b : Nat) (x : Nat → Nat) (aC : Nat → ClassId) (σ : sm_H) : va_W := σ.mapIdx fun k q => (b + k, sm_e b x aC q)
theorem sm_ws_at {k : Nat} {q : sm_C} (h : σ[k]? = some q) : (sm_ws b x aC σ)[k]? = some (b + k, sm_e b x aC q) := by
  unfold sm_ws
  rw [List.getElem?_mapIdx, h]
  rfl
theorem sm_ws_P (hw : sm_w b x H0 D aC σ H) : va_P D mt_cl (sm_ws b x aC σ) H := by
  intro k y hk
  unfold sm_ws at hk
  rw [List.getElem?_mapIdx] at hk
  obtain ⟨q, hq, rfl⟩ := Option.map_eq_some_iff.mp hk
  exact hw.2.2 k q hq
theorem sm_ws_D : va_D (fun q => b ≤ q) (sm_ws b x aC σ) := by
  have h : ∀ (k : Nat) (y : Nat × va_E), (sm_ws b x aC σ)[k]? = some y → y.1 = b + k := by
    intro k y hk
    unfold sm_ws at hk
    rw [List.getElem?_mapIdx] at hk
    obtain ⟨q, hq, rfl⟩ := Option.map_eq_some_iff.mp hk
    rfl
  refine ⟨fun i j y z hi hj e => ?_, fun k y hk => ?_⟩
  · have h1 := h i y hi
    have h2 := h j z hj
    omega
  · show b ≤ y.1
    rw [h k y hk]
    exact Nat.le_add_right b k
theorem sm_ws_back {σ1 : sm_H} {H1 : Heap} {locs1 : List Loc} (hw : sm_w b x H0 D aC σ H) (hl : σ1.length = σ.length) (hP : va_P D mt_cl (sm_ws b x aC σ1) H1) (hS : va_S (fun q => b ≤ q) H H1 locs1) (hz : H1.size ≤ b + σ.length) : sm_w b x H0 D aC σ1 H1 := by
  refine ⟨?_, fun q hq => ?_, fun k q hk => hP k _ (sm_ws_at hk)⟩
  · have h1 := hS.1
    have h2 := hw.1
    omega
  · rw [hS.2.1 q (by have := hw.1; omega) (by omega)]
    exact hw.2.1 q hq
theorem sm_ws_set {a : Nat} {q : sm_C} : (sm_ws b x aC σ).set a (b + a, sm_e b x aC q) = sm_ws b x aC (σ.set a q) := by
  unfold sm_ws
  rw [List.mapIdx_set]
theorem sm_cpy_ok (hx : p.tables.exec = Jvm.exec) (hb : c.code = cc) {nL : Nat} (hml : c.maxLocals = nL) (hls : ls.size = nL) (G : sm_G b x H0 D aC X s) (hts : ∀ w ∈ sm_GW, w.before args s = true) {o : Nat} (hown : s.vm.findClass (sm_on o) = some m.cls) (hw : sm_w b x H0 D aC σ H) (hL : ∀ q ∈ locs, b ≤ q.base)
    (hsz : s.heap.size + cells = b + σ.length) (hR1 : 1 ≤ R.frames) (hR2 : 100 ≤ R.locals) {kk : Nat} (hlink : Cond.methodLink (sm_on o) kk arraycopyName ∈ sm_GW) {st st1 : List Value} {σ1 : sm_H} (h : sm_cpy st σ = some (st1, σ1)) (hdg : decode cc pc = .ok (.invokestatic kk, 3))
    (K : ∀ (H1 : Heap) (locs1 : List Loc), sm_w b x H0 D aC σ1 H1 → (∀ q ∈ locs1, b ≤ q.base) → W p l e R s m args below meth c H1 locs1 cells slots Q (F0 m (pc + 3) ls (st1.map (sm_r b x)))) : W p l e R s m args below meth c H locs cells slots Q (F0 m pc ls (st.map (sm_r b x))) := by
  obtain ⟨w1, w2, w3⟩ := sm_acw
  have hml2 : c.maxLocals = ls.size := hml.trans hls.symm
  have hS0 : va_S (fun q => b ≤ q) H H locs := ⟨Nat.le_refl _, fun _ _ _ => rfl, hL⟩
  unfold sm_cpy at h
  split at h
  · rename_i n dp a sp a0 r
    split at h
    · cases h
    · rename_i hn
      have h1 : ¬ sp < 0 := fun z => hn (Or.inl z)
      have h2 : ¬ dp < 0 := fun z => hn (Or.inr (Or.inl z))
      have h3 : ¬ n < 0 := fun z => hn (Or.inr (Or.inr (Or.inl z)))
      have h8 : ((r.map (sm_r b x)).map fun v => v.category).sum ≤ 8 := by
        rw [sm_cats]
        exact Nat.not_lt.mp fun z => hn (Or.inr (Or.inr (Or.inr z)))
      have hlo : ((r.map (sm_r b x)).map fun v => v.category).sum + (nativeFrameWords "java/lang/System" "arraycopy" 5 + 11) ≤ R.locals := by
        have : nativeFrameWords "java/lang/System" "arraycopy" 5 = 7 := by decide +kernel
        omega
      split at h
      · rename_i n0 f n1 g hc0 hc1
        split at h
        · rename_i hh
          cases h
          refine va_copyi hx hb hml2 hown (hts _ hlink) (hts _ w1) (hts _ w2) (hts _ w3) (sm_K1 G (t := 0) (Nat.lt_of_lt_of_le (by decide) sm_eln)) (sm_ws_P hw) sm_ws_D hS0 a0 a 0 0 (sm_ws_at hc0) (sm_ws_at hc1) rfl rfl rfl h1 h2 h3 hh.1 hh.2 (fun i _ => rfl) hR1 hlo hdg fun H1 locs1 hP1 hD1 hS1 => ?_
          have hP2 : va_P D mt_cl (sm_ws b x aC (σ.set a (.inl (0, n1, .inl (va_cpy f g sp.toNatClampNeg dp.toNatClampNeg n.toNatClampNeg))))) H1 := by
            rw [← sm_ws_set]
            exact hP1
          exact sm_sz fun hz => K H1 locs1 (sm_ws_back hw (List.length_set ..) hP2 hS1 (by omega)) hS1.2.2
        · cases h
      · rename_i n0 f n1 g hc0 hc1
        split at h
        · rename_i hh
          cases h
          refine va_copyi hx hb hml2 hown (hts _ hlink) (hts _ w1) (hts _ w2) (hts _ w3) (sm_K1 G (t := 2) (Nat.lt_of_lt_of_le (by decide) sm_eln)) (sm_ws_P hw) sm_ws_D hS0 a0 a 0 0 (sm_ws_at hc0) (sm_ws_at hc1) rfl rfl rfl h1 h2 h3 hh.1 hh.2.1 hh.2.2 hR1 hlo hdg fun H1 locs1 hP1 hD1 hS1 => ?_
          have hP2 : va_P D mt_cl (sm_ws b x aC (σ.set a (.inl (2, n1, .inl (va_cpy f g sp.toNatClampNeg dp.toNatClampNeg n.toNatClampNeg))))) H1 := by
            rw [← sm_ws_set]
            exact hP1
          exact sm_sz fun hz => K H1 locs1 (sm_ws_back hw (List.length_set ..) hP2 hS1 (by omega)) hS1.2.2
        · cases h
      · rename_i n0 f n1 g hc0 hc1
        split at h
        · rename_i hh
          cases h
          refine va_copyl hx hb hml2 hown (hts _ hlink) (hts _ w1) (hts _ w2) (hts _ w3) (sm_K1 G (t := 1) (Nat.lt_of_lt_of_le (by decide) sm_eln)) (sm_ws_P hw) sm_ws_D hS0 a0 a 0 0 (sm_ws_at hc0) (sm_ws_at hc1) rfl rfl rfl h1 h2 h3 hh.1 hh.2 (fun i _ => rfl) hR1 hlo hdg fun H1 locs1 hP1 hD1 hS1 => ?_
          have hP2 : va_P D mt_cl (sm_ws b x aC (σ.set a (.inl (1, n1, .inr (.inl (va_cpy f g sp.toNatClampNeg dp.toNatClampNeg n.toNatClampNeg)))))) H1 := by
            rw [← sm_ws_set]
            exact hP1
          exact sm_sz fun hz => K H1 locs1 (sm_ws_back hw (List.length_set ..) hP2 hS1 (by omega)) hS1.2.2
        · cases h
      · cases h
  · cases h
theorem sm_na_ok (hx : p.tables.exec = Jvm.exec) (hb : c.code = cc) {nL : Nat} (hml : c.maxLocals = nL) (hls : ls.size = nL) (G : sm_G b x H0 D aC X s) (hts : ∀ w ∈ sm_GW, w.before args s = true) {o : Nat} (hown : s.vm.findClass (sm_on o) = some m.cls) (hw : sm_w b x H0 D aC σ H) (hL : ∀ q ∈ locs, b ≤ q.base)
    (hsz : s.heap.size + cells = b + σ.length) (hR1 : 1 ≤ R.frames) (hR2 : 100 ≤ R.locals) {i : Instr} {k : Nat} {st st1 : List Value} {σ1 : sm_H} (h : sm_na o i st σ = some (k, st1, σ1)) (hdg : decode cc pc = .ok (i, k))
    (K : ∀ (H1 : Heap) (locs1 : List Loc), sm_w b x H0 D aC σ1 H1 → (∀ q ∈ locs1, b ≤ q.base) → W p l e R s m args below meth c H1 locs1 cells slots Q (F0 m (pc + k) ls (st1.map (sm_r b x)))) : W p l e R s m args below meth c H locs cells slots Q (F0 m pc ls (st.map (sm_r b x))) := by
  unfold sm_na at h
  split at h
  · rename_i kk a r
    split at h
    · rename_i k1 tl hat
      obtain ⟨j, ho, pl⟩ := tl
      split at h
      · rename_i hsum
        cases h
        obtain ⟨hw1, -⟩ := sm_call hat
        have hl1 : Cond.methodLink (sm_on o) kk Lib.objectInit ∈ sm_GW := List.mem_filter.mpr ⟨by simpa [sm_kw] using hw1, by first | rfl | simp [goodWord, Cond.onTables, Cond.keeps, Cond.steady]⟩
        refine W.objInit (g := F0 m pc ls (.ref (b + a) :: st1.map (sm_r b x))) hx hb hown (hts _ hl1) (hts _ sm_oiw.1) (hts _ sm_oiw.2) rfl (hls.trans hml.symm) rfl hdg hR1 ?_ (K H locs hw hL)
        rw [sm_cats]
        show 2 * 0 + _ + 12 ≤ _
        omega
      · cases h
    · cases h
  · rename_i kk
    split at h
    · rename_i k1 tl hat
      obtain ⟨j, ho, pl⟩ := tl
      obtain ⟨⟨st2, σ2⟩, h1, h2⟩ := Option.map_eq_some_iff.mp h
      cases h2
      obtain ⟨hw1, -⟩ := sm_call hat
      have hl1 : Cond.methodLink (sm_on o) kk arraycopyName ∈ sm_GW := List.mem_filter.mpr ⟨by simpa [sm_kw] using hw1, by first | rfl | simp [goodWord, Cond.onTables, Cond.keeps, Cond.steady]⟩
      exact sm_cpy_ok hx hb hml hls G hts hown hw hL hsz hR1 hR2 hl1 h1 hdg K
    · cases h
  · cases h
theorem sm_end_ok (hx : p.tables.exec = Jvm.exec) (hb : c.code = cc) {rt : Option FieldType} (hr : meth.sig.returnType = rt) (hlocks : meth.locks = false) {i : Instr} {st : List Value} {v : Option Value} (h : sm_end rt i st = some v) (hdg : decode cc pc = .ok (i, 1)) (hw : sm_w b x H0 D aC σ H) (hL : ∀ q ∈ locs, b ≤ q.base) :
    W p l e R s m args below meth c H locs cells slots (MQ below (sm_QC b x H0 D aC v σ) args s cells slots (fun q => b ≤ q)) (F0 m pc ls (st.map (sm_r b x))) := by
  have hq : ∀ t : State, t.heap = H → s.WarmedH t.vm → sm_QC b x H0 D aC v σ args s (.returned (v.map (sm_r b x))) t := fun t ht _ => ⟨rfl, by rw [ht]; exact hw⟩
  unfold sm_end at h
  split at h
  · split at h
    · cases h
      exact W.iret hx hb hr hq hL hdg hlocks
    · split at h
      · rename_i hz
        cases h
        exact W.zret hx hb hr (by rcases hz with rfl | rfl <;> rfl) hq hL hdg hlocks
      · cases h
    · split at h
      · rename_i hz
        cases h
        exact W.zret hx hb hr hz hq hL hdg hlocks
      · cases h
    · split at h
      · rename_i hz
        cases h
        exact W.zret hx hb hr hz hq hL hdg hlocks
      · cases h
    · cases h
  · split at h
    · cases h
      exact W.lret hx hb hr hq hL hdg hlocks
    · cases h
  · split at h
    · cases h
      exact W.aret hx hb hr (Or.inl ⟨_, rfl⟩) (Or.inr ⟨_, rfl⟩) hq hL hdg hlocks
    · cases h
      exact W.aret hx hb hr (Or.inl ⟨_, rfl⟩) (Or.inl rfl) hq hL hdg hlocks
    · split at h
      · cases h
      · rename_i hz
        cases h
        rw [Option.map_some, sm_rR hz] at hq
        rw [List.map_cons, sm_rR hz]
        exact W.aret hx hb hr (Or.inl ⟨_, rfl⟩) (Or.inr ⟨_, rfl⟩) hq hL hdg hlocks
    · cases h
      exact W.aret hx hb hr (Or.inr ⟨_, rfl⟩) (Or.inr ⟨_, rfl⟩) hq hL hdg hlocks
    · cases h
      exact W.aret hx hb hr (Or.inr ⟨_, rfl⟩) (Or.inl rfl) hq hL hdg hlocks
    · cases h
  · split at h
    · cases h
      exact W.vret hx hb hr hq hL hdg hlocks
    · cases h
  · cases h
end SMM
/-! cells only grow -/
theorem sm_len_wr {o : Nat} {ini : Bool} {i : Instr} {st st1 : List Value} {σ σ1 : sm_H} {k : Nat} (h : sm_wr o ini i st σ = some (k, st1, σ1)) : σ1.length = σ.length := by
  unfold sm_wr at h
  repeat' (split at h)
  all_goals first
    | (cases h; done)
    | (cases h; exact List.length_set ..)
theorem sm_len_na {o : Nat} {i : Instr} {st st1 : List Value} {σ σ1 : sm_H} {k : Nat} (h : sm_na o i st σ = some (k, st1, σ1)) : σ1.length = σ.length := by
  unfold sm_na at h
  split at h
  · split at h
    · split at h <;> cases h
      rfl
    · cases h
  · split at h
    · obtain ⟨⟨st2, σ2⟩, h1, h2⟩ := Option.map_eq_some_iff.mp h
      cases h2
      unfold sm_cpy at h1
      repeat' (split at h1)
      all_goals first
        | (cases h1; done)
        | (cases h1; exact List.length_set ..)
    · cases h
  · cases h
theorem sm_len_mk {o : Nat} {i : Instr} {st st1 : List Value} {σ σ1 : sm_H} {k u u1 : Nat} (h : sm_mk o i st σ u = some (k, st1, σ1, u1)) : σ1.length = σ.length + 1 ∧ u ≤ u1 := by
  unfold sm_mk at h
  repeat' (split at h)
  all_goals first
    | (cases h; done)
    | (cases h; exact ⟨by rw [List.length_append]; rfl, Nat.le_add_right _ _⟩)
