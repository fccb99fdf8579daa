/-! SOUND, part 4: natives, calls, ends, a whole method -/
theorem sm_oiw : Cond.instanceMethod Lib.objectInit ∈ sm_GW ∧ Cond.code Lib.objectInit ⟨#[0xb1]⟩ 1 none ∈ sm_GW :=
  ⟨List.mem_filter.mpr ⟨sm_uw_mem sm_objw _ (by simp), by first | rfl | simp [goodWord, Cond.onTables, Cond.keeps, Cond.steady]⟩, List.mem_filter.mpr ⟨sm_uw_mem sm_objw _ (by simp), by first | rfl | simp [goodWord, Cond.onTables, Cond.keeps, Cond.steady]⟩⟩
theorem sm_acw : Cond.native arraycopyName ∈ sm_GW ∧ Cond.static arraycopyName ∈ sm_GW ∧ Cond.initialized "java/lang/System" ∈ sm_GW :=
  ⟨List.mem_filter.mpr ⟨sm_uw_mem sm_objw _ (by simp), by first | rfl | simp [goodWord, Cond.onTables, Cond.keeps, Cond.steady]⟩, List.mem_filter.mpr ⟨sm_uw_mem sm_objw _ (by simp), by first | rfl | simp [goodWord, Cond.onTables, Cond.keeps, Cond.steady]⟩, List.mem_filter.mpr ⟨sm_uw_mem sm_objw _ (by simp), by first | rfl | simp [goodWord, Cond.onTables, Cond.keeps, Cond.steady]⟩⟩
/-- a call entry's word -/
theorem sm_call {o k k' kd j ho pl : Nat} (h : sm_at mt_k o k = some (k', kd, j, ho, pl)) : sm_kw o (k, kd, j, ho, pl) ∈ lw_tbl ∧ (kd = 6 ∨ kd = 7 ∨ (j < mt_m.length ∧ (ho = 0 ↔ kd % 2 = 0) ∧ kd < 6 ∧ ((kd = 2 ∨ kd = 3) → sm_is j = true) ∧ ((kd = 0 ∨ kd = 1) → sm_is j = false ∧ ((sm_y j).name == "<init>") = false) ∧ ((kd = 4 ∨ kd = 5) → sm_is j = false ∧ ((sm_y j).name == "<init>") = true ∧ sm_rt j = none))) := by
  obtain ⟨h1, h2⟩ := sm_at_mem h
  have h3 := sm_row sm_kchk2 h1
  have h4 := List.map_inj_left.mp (sm_kwok_all o) _ h1
  simp only [decide_eq_true_eq] at h3
  dsimp only at h2 h3 h4
  subst h2
  exact ⟨List.mem_of_getElem? h4, h3⟩
theorem sm_mlen : mt_m.length < 1000 := by decide +kernel
theorem sm_mem_m {j : Nat} (h : j < mt_m.length) : sm_m j ∈ mt_m := by
  unfold sm_m
  rw [if_neg (by have := sm_mlen; omega)]
  rw [List.getD_eq_getElem?_getD, List.getElem?_eq_getElem h]
  exact List.getElem_mem h
/-- a method's own words -/
theorem sm_meth {j : Nat} (h : j < mt_m.length) : Cond.code (sm_y j) (sm_cc j) (sm_ml j) (sm_rt j) ∈ sm_GW ∧ (if sm_is j = true then Cond.static (sm_y j) else Cond.instanceMethod (sm_y j)) ∈ sm_GW ∧ Cond.initialized (sm_y j).cls ∈ sm_GW ∧
    (sm_is j = false → ((sm_y j).name == "<init>") = false → Cond.selects (sm_y j).cls (sm_y j) (sm_y j) ∈ sm_GW) ∧ plainFor (sm_y j) = true ∧ (sm_y j).cls ≠ "java/lang/invoke/MethodHandle" ∧ (sm_y j).cls ≠ "java/lang/invoke/VarHandle" ∧ (sm_y j).cls = sm_on (sm_ow j) ∧ (parseMethodDescriptor (sm_y j).desc).map (fun d => d.parameters.length) = some (sm_np j) ∧ sm_ml j ≤ 60 := by
  have hm := sm_mem_m h
  have h1 := sm_mok_all _ hm
  simp only [Prod.mk.injEq] at h1
  have h2 := sm_mse_all _ hm
  have h3 := sm_mpl_all _ hm
  have h4 := of_decide_eq_true (List.all_eq_true.mp sm_mlc _ hm)
  simp only [Bool.and_eq_true, bne_iff_ne, ne_eq, beq_iff_eq, decide_eq_true_eq] at h3
  obtain ⟨⟨⟨⟨p1, p2⟩, p3⟩, p4⟩, p5⟩ := h3
  refine ⟨List.mem_filter.mpr ⟨List.mem_of_getElem? h1.1, by first | rfl | simp [goodWord, Cond.onTables, Cond.keeps, Cond.steady]⟩, ?_, List.mem_filter.mpr ⟨List.mem_of_getElem? h1.2.2, by first | rfl | simp [goodWord, Cond.onTables, Cond.keeps, Cond.steady]⟩, fun hs hn => ?_, p1, p2, p3, p4, p5, h4⟩
  · refine List.mem_filter.mpr ⟨List.mem_of_getElem? h1.2.1, ?_⟩
    split <;> first | rfl | simp [goodWord, Cond.onTables, Cond.keeps, Cond.steady]
  · have hz : ¬ ((sm_m j).2.2.2.2.2.2.1 = true ∨ ((sm_m j).1.name == "<init>") = true) := by
      intro z
      rcases z with z | z
      · have : sm_is j = true := z
        rw [hs] at this
        cases this
      · have : ((sm_y j).name == "<init>") = true := z
        rw [hn] at this
        cases this
    rw [if_neg hz, if_neg hz] at h2
    exact List.mem_filter.mpr ⟨List.mem_of_getElem? h2, by first | rfl | simp [goodWord, Cond.onTables, Cond.keeps, Cond.steady]⟩
def sm_WS (j : Nat) : List Cond := .code (sm_y j) (sm_cc j) (sm_ml j) (sm_rt j) :: sm_GW
theorem sm_good {w : Cond} (h : w ∈ sm_GW) : w ∈ sm_GW ∧ ((w.onTables && w.keeps) = true ∨ ∃ ty, w = .arrayClass ty) := ⟨h, good_of_word (List.mem_filter.mp h).2⟩
theorem sm_goodWS {j : Nat} (h : j < mt_m.length) : GoodIn sm_GW (sm_WS j) := by
  intro w hw
  rcases List.mem_cons.mp hw with rfl | hw
  · exact sm_good (sm_meth h).1
  · exact sm_good hw
def sm_RM (d mc ms : Nat) : Room := { frames := d, cells := mc, slots := ms, locals := 100 * d }
section SMC
variable {p : Program} {l : Launch} {e : Env} {R : Room} {s : State} {m : MethodId} {args : Array Value} {below : List Frame} {meth : Method} {c : Code} {H : Heap} {locs : List Loc} {cells slots : Nat} {Q : State → Prop}
variable {cc : ByteArray} {pc : Nat} {ls : Array Slot} {b : Nat} {x : Nat → Nat} {H0 : Heap} {D : va_G} {aC : Nat → ClassId} {X : Option (Nat × (Nat → Int32))} {σ : sm_H}
def sm_PC (b : Nat) (x : Nat → Nat) (H0 : Heap) (D : va_G) (aC : Nat → ClassId) (X : Option (Nat × (Nat → Int32))) (as : List Value) (σ : sm_H) : Array Value → State → Prop := fun a U => a = (as.map (sm_r b x)).toArray ∧ sm_w b x H0 D aC σ U.heap ∧ sm_G b x H0 D aC X U
def sm_QC (b : Nat) (x : Nat → Nat) (H0 : Heap) (D : va_G) (aC : Nat → ClassId) (v : Option Value) (σ : sm_H) : Array Value → State → Outcome → State → Prop := fun _ _ o t => o = .returned (v.map (sm_r b x)) ∧ sm_w b x H0 D aC σ t.heap
/-- method j, called with these values over these cells, within d frames: it returns v, and these cells -/
def sm_Met (l : Launch) (b : Nat) (x : Nat → Nat) (H0 : Heap) (D : va_G) (aC : Nat → ClassId) (X : Option (Nat × (Nat → Int32))) (d j : Nat) (as : List Value) (σ : sm_H) (u : Nat) (v : Option Value) (σ1 : sm_H) (u1 : Nat) : Prop :=
  Met l (sm_y j) (sm_WS j) (sm_RM d (σ1.length - σ.length) (u1 - u)) (sm_PC b x H0 D aC X as σ) (sm_QC b x H0 D aC v σ1) (σ1.length - σ.length) (u1 - u) (fun q => b ≤ q)
theorem sm_blind {as : List Value} : FrameBlind (sm_PC b x H0 D aC X as σ) := fun a U g mk h => ⟨h.1, h.2.1, sm_G.same (u := U) (U := U.calling g mk a) rfl h.2.2⟩
theorem sm_preS (G : sm_G b x H0 D aC X s) (hw : sm_w b x H0 D aC σ H) {as : List Value} : PreS s H (sm_PC b x H0 D aC X as σ) (as.map (sm_r b x)) :=
  ⟨sm_blind, fun U hU hW => ⟨rfl, by rw [hU]; exact hw, G.warm hW⟩⟩
/-- behind the call -/
theorem sm_back {mc ms n : Nat} {v : Option Value} {σ1 : sm_H} {st0 r : List Value} {a : Array Value} (hr : va_Run p l e R s m args below meth c H locs cells slots mc ms (F0 m pc ls st0) (r.map (sm_r b x)) (sm_QC b x H0 D aC v σ1 a) (fun q => b ≤ q)) (hL : ∀ q ∈ locs, b ≤ q.base)
    (K : ∀ (H1 : Heap) (locs1 : List Loc), sm_w b x H0 D aC σ1 H1 → (∀ q ∈ locs1, b ≤ q.base) → W p l e R s m args below meth c H1 locs1 (cells + mc) (slots + ms) Q (F0 m (pc + 3) ls ((v.toList ++ r).map (sm_r b x)))) : W p l e R s m args below meth c H locs cells slots Q (F0 m pc ls st0) := by
  intro T hT X
  obtain ⟨v1, st₀, t, T', L, h0, X', hLf, e1, e2, ⟨ho, hw1⟩, st⟩ := hr T hT X
  cases ho
  obtain ⟨t2, a1, b1⟩ := K T'.heap (locs ++ L) (by rw [e1]; exact hw1) (fun q hq => (List.mem_append.mp hq).elim (hL q) (hLf q)) T' rfl X'
  have ev : (v.map (sm_r b x)).toList ++ r.map (sm_r b x) = (v.toList ++ r).map (sm_r b x) := by
    rw [List.map_append]
    cases v <;> rfl
  refine ⟨t2, st t2 ?_, b1⟩
  show Steps p.tables e below (T'.setTop (F0 m (pc + 3) ls ((v.map (sm_r b x)).toList ++ r.map (sm_r b x)))) t2
  rw [ev]
  exact a1
theorem sm_args {n : Nat} {st : List Value} : (((st.take n).reverse).map (sm_r b x)).reverse ++ (st.drop n).map (sm_r b x) = st.map (sm_r b x) := by
  rw [← List.map_reverse, List.reverse_reverse, ← List.map_append, List.take_append_drop]
theorem sm_cl_ok {d j1 k : Nat} {as r st : List Value} {u u1 : Nat} {v : Option Value} {σ1 : sm_H} {o : Nat} {i : Instr}
    (hx : p.tables.exec = Jvm.exec) (hb : c.code = cc) {nL : Nat} (hml : c.maxLocals = nL) (hls : ls.size = nL) (G : sm_G b x H0 D aC X s) (hts : ∀ w ∈ sm_GW, w.before args s = true) (hown : s.vm.findClass (sm_on o) = some m.cls) (hw : sm_w b x H0 D aC σ H) (hL : ∀ q ∈ locs, b ≤ q.base)
    (hR1 : d + 1 ≤ R.frames) (hR2 : 100 * (d + 1) ≤ R.locals)
    (h : sm_cl o i st σ = some (j1, as, r)) (hdg : decode cc pc = .ok (i, 3)) (hM : j1 < mt_m.length → sm_Met l b x H0 D aC X d j1 as σ u v σ1 u1) (hc : cells + (σ1.length - σ.length) ≤ R.cells) (hs : slots + (u1 - u) ≤ R.slots)
    (K : ∀ (H1 : Heap) (locs1 : List Loc), sm_w b x H0 D aC σ1 H1 → (∀ q ∈ locs1, b ≤ q.base) → W p l e R s m args below meth c H1 locs1 (cells + (σ1.length - σ.length)) (slots + (u1 - u)) Q (F0 m (pc + 3) ls ((v.toList ++ r).map (sm_r b x)))) : W p l e R s m args below meth c H locs cells slots Q (F0 m pc ls (st.map (sm_r b x))) := by
  have room : ∀ {r : List Value}, (r.map fun v => v.category).sum ≤ 8 → 2 * (F0 m pc ls (st.map (sm_r b x))).monitorRoom + ((r.map (sm_r b x)).map fun v => v.category).sum ≤ 8 := by
    intro r hr
    rw [sm_cats]
    exact lv_room hr
  unfold sm_cl at h
  split at h
  · -- virtual
    rename_i kk
    split at h
    · rename_i k1 kd j tl hat
      obtain ⟨ho, pl⟩ := tl
      obtain ⟨hw1, hk⟩ := sm_call hat
      split at h
      · rename_i hkd
        have hk : j < mt_m.length ∧ (ho = 0 ↔ kd % 2 = 0) ∧ kd < 6 ∧ ((kd = 2 ∨ kd = 3) → sm_is j = true) ∧ ((kd = 0 ∨ kd = 1) → sm_is j = false ∧ ((sm_y j).name == "<init>") = false) ∧ ((kd = 4 ∨ kd = 5) → sm_is j = false ∧ ((sm_y j).name == "<init>") = true ∧ sm_rt j = none) := by
          rcases hk with hk | hk | hk
          · omega
          · omega
          · exact hk
        obtain ⟨hj, hho, -, -, hv, -⟩ := hk
        obtain ⟨hv1, hv2⟩ := hv hkd
        obtain ⟨m1, m2, m3, m4, m5, m6, m7, m8, m9, m10⟩ := sm_meth hj
        rw [if_neg (by rw [hv1]; decide)] at m2
        have m4 := m4 hv1 hv2
        -- the receiver
        have go : ∀ (rv : Value) (rest : List Value) (qb : Nat), st.drop (sm_np j) = rv :: rest → sm_r b x rv = .ref qb → (∃ cellB : Cell, H[qb]? = some cellB ∧ cellB.vm.isStatics = false ∧ s.vm.findClass (sm_y j).cls = some cellB.cls) → (rest.map fun v => v.category).sum ≤ 8 → j1 = j → as = rv :: (st.take (sm_np j)).reverse → r = rest →
            W p l e R s m args below meth c H locs cells slots Q (F0 m pc ls (st.map (sm_r b x))) := by
          intro rv rest qb hdr hrv hrecv hsum e1 e2 e3
          subst e1; subst e2; subst e3
          have hM := hM hj
          have hlen : ((st.take (sm_np j1)).reverse.map (sm_r b x)).length = sm_np j1 := by
            rw [List.length_map, List.length_reverse, List.length_take]
            have : (st.drop (sm_np j1)).length = r.length + 1 := by rw [hdr]; rfl
            rw [List.length_drop] at this
            omega
          have hst : st.map (sm_r b x) = ((st.take (sm_np j1)).reverse.map (sm_r b x)).reverse ++ .ref qb :: r.map (sm_r b x) := by
            rw [← sm_args (n := sm_np j1) (st := st), hdr, List.map_cons, hrv]
          have hPc : sm_PC b x H0 D aC X (rv :: (st.take (sm_np j1)).reverse) σ = sm_PC b x H0 D aC X (rv :: (st.take (sm_np j1)).reverse) σ := rfl
          have hp : PreV s H (sm_y j1).cls qb (sm_PC b x H0 D aC X (rv :: (st.take (sm_np j1)).reverse) σ) ((st.take (sm_np j1)).reverse.map (sm_r b x)) :=
            ⟨sm_blind, hrecv, fun U hU hW => ⟨by rw [List.map_cons, hrv], by rw [hU]; exact hw, G.warm hW⟩⟩
          rcases hkd with rfl | rfl
          · have hz : ho = 0 := hho.mpr rfl
            subst hz
            have hl1 : Cond.methodLink (sm_on o) kk (sm_y j1) ∈ sm_GW := List.mem_filter.mpr ⟨by simpa [sm_kw] using hw1, by first | rfl | simp [goodWord, Cond.onTables, Cond.keeps, Cond.steady]⟩
            have hT : GoodIn sm_GW (wsV (sm_on o) kk (sm_y j1).cls (sm_y j1) (sm_WS j1)) := by
              intro w hw
              rcases List.mem_append.mp hw with h1 | h1
              · simp only [List.mem_cons, List.not_mem_nil, or_false] at h1
                rcases h1 with rfl | rfl | rfl | rfl
                · exact sm_good hl1
                · exact sm_good m2
                · exact sm_good m4
                · exact sm_good m3
              · exact sm_goodWS hj w h1
            refine sm_back (n := sm_np j1) (va_runV (As := (st.take (sm_np j1)).reverse.map (sm_r b x)) ⟨hx, hb, hml, hown, hts⟩ hM (cwV (sm_np j1) hts hT rfl rfl rfl ⟨rfl, m6, m7, m9⟩ ⟨hR1, ?_⟩) hp rfl hlen hls hst (room hsum) hdg ⟨hc, hs⟩) hL K
            show 8 + (sm_ml j1 + 11) + 100 * d ≤ R.locals
            omega
          · have hz : ho ≠ 0 := fun z => by have := hho.mp z; omega
            have hl1 : Cond.methodLinkNest (sm_on o) kk (sm_y j1) (sm_ho ho) ∈ lw_tbl := by simpa [sm_kw, hz] using hw1
            refine sm_back (n := sm_np j1) (va_runVN (As := (st.take (sm_np j1)).reverse.map (sm_r b x)) ⟨hx, hb, hml, hown, hts⟩ hM ⟨va_cnB (sm_np j1) hts (sm_goodWS hj) rfl rfl rfl (G.2.2.2.1 _ hl1 rfl) (hts _ m3) ⟨m6, m7, m9⟩ ⟨hR1, ?_⟩, hts _ m2, hts _ m4⟩ hp rfl hlen hls hst (room hsum) hdg ⟨hc, hs⟩) hL K
            show 8 + (sm_ml j1 + 11) + 100 * d ≤ R.locals
            omega
        split at h
        · rename_i a0 r0 hdr
          split at h
          · rename_i c0 fs hcell
            split at h
            · rename_i hh
              cases h
              refine go (.ref a0) r (b + a0) hdr rfl ?_ hh.2.2 rfl rfl rfl
              have hcl : mt_cl[c0]? = some (sm_T c0) := sm_Tat hh.2.1
              obtain ⟨rr, h1, cell, g1, g2, g3, -⟩ := hw.2.2 a0 _ hcell
              refine ⟨cell, g1, by rw [g3]; rfl, ?_⟩
              rw [m8, ← hh.1, sm_ocl c0 hh.2.1, g2]
              exact (G.1 c0 _ hcl).2.1
            · cases h
          · cases h
        · rename_i q0 r0 hdr
          split at h
          · rename_i hh
            cases h
            have hlb := sm_sbl
            refine go (.retAddr q0) r (x q0) hdr (sm_rR (by omega)) ?_ hh.2.2.2 rfl rfl rfl
            obtain ⟨hO, -⟩ := G.2.2.2.2.1 (q0 / 2) (by omega)
            obtain ⟨cell, g1, g2, g3, g4⟩ := hO
            have hq2 := sm_qeven hh.1
            dsimp only at g1 g4
            rw [hq2] at g1 g4
            exact ⟨cell, sm_base hw g1 g4, g2, by rw [m8, hh.2.2.1, sm_oso]; exact g3⟩
          · cases h
        · cases h
      · cases h
    · cases h
  · -- special
    rename_i kk
    split at h
    · rename_i k1 kd j tl hat
      obtain ⟨ho, pl⟩ := tl
      obtain ⟨hw1, hk⟩ := sm_call hat
      split at h
      · rename_i hkd
        have hk : j < mt_m.length ∧ (ho = 0 ↔ kd % 2 = 0) ∧ kd < 6 ∧ ((kd = 2 ∨ kd = 3) → sm_is j = true) ∧ ((kd = 0 ∨ kd = 1) → sm_is j = false ∧ ((sm_y j).name == "<init>") = false) ∧ ((kd = 4 ∨ kd = 5) → sm_is j = false ∧ ((sm_y j).name == "<init>") = true ∧ sm_rt j = none) := by
          rcases hk with hk | hk | hk
          · omega
          · omega
          · exact hk
        obtain ⟨hj, hho, -, -, -, hv⟩ := hk
        obtain ⟨hv1, hv2, hv3⟩ := hv hkd
        obtain ⟨m1, m2, m3, -, m5, m6, m7, m8, m9, m10⟩ := sm_meth hj
        rw [if_neg (by rw [hv1]; decide)] at m2
        have hnm : (sm_y j).name = "<init>" := by simpa using hv2
        split at h
        · rename_i a0 r0 hdr
          split at h
          · rename_i hsum
            cases h
            have hM := hM hj
            have hlen : ((st.take (sm_np j1)).reverse.map (sm_r b x)).length = sm_np j1 := by
              rw [List.length_map, List.length_reverse, List.length_take]
              have : (st.drop (sm_np j1)).length = r.length + 1 := by rw [hdr]; rfl
              rw [List.length_drop] at this
              omega
            have hst : st.map (sm_r b x) = ((st.take (sm_np j1)).reverse.map (sm_r b x)).reverse ++ .ref (b + a0) :: r.map (sm_r b x) := by
              rw [← sm_args (n := sm_np j1) (st := st), hdr]
              rfl
            have hp : PreS s H (sm_PC b x H0 D aC X (.ref a0 :: (st.take (sm_np j1)).reverse) σ) (.ref (b + a0) :: (st.take (sm_np j1)).reverse.map (sm_r b x)) := sm_preS G hw
            have hws : sm_WS j1 = Cond.code (sm_y j1) (sm_cc j1) (sm_ml j1) none :: sm_GW := by unfold sm_WS; rw [hv3]
            rcases hkd with rfl | rfl
            · have hz : ho = 0 := hho.mpr rfl
              subst hz
              have hl1 : Cond.methodLink (sm_on o) kk (sm_y j1) ∈ sm_GW := List.mem_filter.mpr ⟨by simpa [sm_kw] using hw1, by first | rfl | simp [goodWord, Cond.onTables, Cond.keeps, Cond.steady]⟩
              refine sm_back (n := sm_np j1) (va_runI (As := (st.take (sm_np j1)).reverse.map (sm_r b x)) ⟨hx, hb, hml, hown, hts⟩ hM (cwI (sm_np j1) hts (sm_goodWS hj) hws rfl rfl (hts _ m3) (hts _ hl1) (hts _ m2) hnm ⟨m6, m7, m9⟩ ⟨hR1, ?_⟩) hp rfl hlen hls hst (room hsum) hdg ⟨hc, hs⟩) hL K
              show 8 + (sm_ml j1 + 11) + 100 * d ≤ R.locals
              omega
            · have hz : ho ≠ 0 := fun z => by have := hho.mp z; omega
              have hl1 : Cond.methodLinkNest (sm_on o) kk (sm_y j1) (sm_ho ho) ∈ lw_tbl := by simpa [sm_kw, hz] using hw1
              refine sm_back (n := sm_np j1) (va_runIN (As := (st.take (sm_np j1)).reverse.map (sm_r b x)) ⟨hx, hb, hml, hown, hts⟩ hM ⟨va_cnB (sm_np j1) hts (sm_goodWS hj) hws rfl rfl (G.2.2.2.1 _ hl1 rfl) (hts _ m3) ⟨m6, m7, m9⟩ ⟨hR1, ?_⟩, hnm, hts _ m2⟩ hp rfl hlen hls hst (room hsum) hdg ⟨hc, hs⟩) hL K
              show 8 + (sm_ml j1 + 11) + 100 * d ≤ R.locals
              omega
          · cases h
        · cases h
      · cases h
    · cases h
  · -- static
    rename_i kk
    split at h
    · rename_i k1 kd j tl hat
      obtain ⟨ho, pl⟩ := tl
      obtain ⟨hw1, hk⟩ := sm_call hat
      split at h
      · rename_i hh
        obtain ⟨hkd, hlen0, hsum⟩ := hh
        cases h
        have hk : j1 < mt_m.length ∧ (ho = 0 ↔ kd % 2 = 0) ∧ kd < 6 ∧ ((kd = 2 ∨ kd = 3) → sm_is j1 = true) ∧ ((kd = 0 ∨ kd = 1) → sm_is j1 = false ∧ ((sm_y j1).name == "<init>") = false) ∧ ((kd = 4 ∨ kd = 5) → sm_is j1 = false ∧ ((sm_y j1).name == "<init>") = true ∧ sm_rt j1 = none) := by
          rcases hk with hk | hk | hk
          · omega
          · omega
          · exact hk
        obtain ⟨hj, hho, -, hv, -, -⟩ := hk
        have hv := hv hkd
        obtain ⟨m1, m2, m3, -, m5, m6, m7, m8, m9, m10⟩ := sm_meth hj
        rw [if_pos hv] at m2
        have hM := hM hj
        have hlen : ((st.take (sm_np j1)).reverse.map (sm_r b x)).length = sm_np j1 := by
          rw [List.length_map, List.length_reverse, List.length_take]
          omega
        have hst : st.map (sm_r b x) = ((st.take (sm_np j1)).reverse.map (sm_r b x)).reverse ++ (st.drop (sm_np j1)).map (sm_r b x) := sm_args.symm
        have hp : PreS s H (sm_PC b x H0 D aC X (st.take (sm_np j1)).reverse σ) ((st.take (sm_np j1)).reverse.map (sm_r b x)) := sm_preS G hw
        rcases hkd with rfl | rfl
        · have hz : ho = 0 := hho.mpr rfl
          subst hz
          have hl1 : Cond.methodLink (sm_on o) kk (sm_y j1) ∈ sm_GW := List.mem_filter.mpr ⟨by simpa [sm_kw] using hw1, by first | rfl | simp [goodWord, Cond.onTables, Cond.keeps, Cond.steady]⟩
          have hT : GoodIn sm_GW (va_wsS (sm_on o) kk (sm_y j1) (sm_WS j1)) := by
            intro w hw
            rcases List.mem_append.mp hw with h1 | h1
            · simp only [List.mem_cons, List.not_mem_nil, or_false] at h1
              rcases h1 with rfl | rfl | rfl
              · exact sm_good hl1
              · exact sm_good m2
              · exact sm_good m3
            · exact sm_goodWS hj w h1
          refine sm_back (n := sm_np j1) (va_runS (As := (st.take (sm_np j1)).reverse.map (sm_r b x)) ⟨hx, hb, hml, hown, hts⟩ hM (va_cwS (sm_np j1) hts hT rfl rfl rfl ⟨m6, m7, m9⟩ ⟨hR1, ?_⟩) hp rfl hlen hls hst (room hsum) hdg ⟨hc, hs⟩) hL K
          show 8 + (sm_ml j1 + 11) + 100 * d ≤ R.locals
          omega
        · have hz : ho ≠ 0 := fun z => by have := hho.mp z; omega
          have hl1 : Cond.methodLinkNest (sm_on o) kk (sm_y j1) (sm_ho ho) ∈ lw_tbl := by simpa [sm_kw, hz] using hw1
          refine sm_back (n := sm_np j1) (va_runSN (As := (st.take (sm_np j1)).reverse.map (sm_r b x)) ⟨hx, hb, hml, hown, hts⟩ hM ⟨va_cnB (sm_np j1) hts (sm_goodWS hj) rfl rfl rfl (G.2.2.2.1 _ hl1 rfl) (hts _ m3) ⟨m6, m7, m9⟩ ⟨hR1, ?_⟩, hts _ m2, trivial⟩ hp rfl hlen hls hst (room hsum) hdg ⟨hc, hs⟩) hL K
          show 8 + (sm_ml j1 + 11) + 100 * d ≤ R.locals
          omega
      · cases h
    · cases h
  · cases h
end SMC
