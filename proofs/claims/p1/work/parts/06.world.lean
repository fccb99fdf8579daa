/-! THE WORLD: how the function's cells lie in the machine's heap, from b on; what the tables say (sm_G) -/
def sm_qa (b : Nat) (f : Nat → Option Nat) : Nat → Option Nat := fun i => (f i).map (fun a => b + a)
def sm_va (b : Nat) (a : vp_A) : vp_A := match a with
  | (n, .inr (.inr (.inr (.inr f)))) => (n, .inr (.inr (.inr (.inr (sm_qa b f)))))
  | (n, .inl f) => (n, .inl f)
  | (n, .inr (.inl f)) => (n, .inr (.inl f))
  | (n, .inr (.inr (.inl f))) => (n, .inr (.inr (.inl f)))
  | (n, .inr (.inr (.inr (.inl f)))) => (n, .inr (.inr (.inr (.inl f))))
theorem sm_va1 (b : Nat) (a : vp_A) : (sm_va b a).1 = a.1 := by
  obtain ⟨n, f | f | f | f | f⟩ := a <;> rfl
theorem sm_rrf (b : Nat) (x : Nat → Nat) (r : Option Nat) : va_rf (r.map (fun a => b + a)) = sm_r b x (va_rf r) := by cases r <;> rfl
def sm_e (b : Nat) (x : Nat → Nat) (aC : Nat → ClassId) (q : sm_C) : va_E := match q with
  | .inl (t, a) => .inl (aC t, sm_va b a)
  | .inr (ci, fs) => .inr (ci, fs.map (sm_r b x))
def sm_w (b : Nat) (x : Nat → Nat) (H0 : Heap) (D : va_G) (aC : Nat → ClassId) (σ : sm_H) (H : Heap) : Prop :=
  H.size = b + σ.length ∧ (∀ q : Nat, q < b → H[q]? = H0[q]?) ∧ ∀ (k : Nat) (q : sm_C), σ[k]? = some q → va_at D mt_cl (b + k, sm_e b x aC q) H
theorem sm_w.set {b : Nat} {x : Nat → Nat} {H0 : Heap} {D : va_G} {aC : Nat → ClassId} {σ : sm_H} {H H1 : Heap} (h : sm_w b x H0 D aC σ H) {a : Nat} {q : sm_C} (z : H1.size = H.size) (o : ∀ k : Nat, k ≠ b + a → H1[k]? = H[k]?) (hq : va_at D mt_cl (b + a, sm_e b x aC q) H1) : sm_w b x H0 D aC (σ.set a q) H1 := by
  refine ⟨by rw [z, List.length_set]; exact h.1, fun k hk => ?_, fun k c hk => ?_⟩
  · rw [o k (by omega)]
    exact h.2.1 k hk
  · by_cases hka : k = a
    · subst hka
      have hl : k < (σ.set k q).length := (List.getElem?_eq_some_iff.mp hk).1
      rw [List.length_set] at hl
      rw [List.getElem?_set_self hl] at hk
      cases hk
      exact hq
    · rw [List.getElem?_set_ne (Ne.symm hka)] at hk
      exact (h.2.2 k c hk).kept (o (b + k) (by omega))
theorem sm_w.push {b : Nat} {x : Nat → Nat} {H0 : Heap} {D : va_G} {aC : Nat → ClassId} {σ : sm_H} {H H1 : Heap} (h : sm_w b x H0 D aC σ H) {q : sm_C} (z : H1.size = H.size + 1) (o : ∀ k : Nat, k < H.size → H1[k]? = H[k]?) (hq : va_at D mt_cl (b + σ.length, sm_e b x aC q) H1) : sm_w b x H0 D aC (σ ++ [q]) H1 := by
  have hs := h.1
  refine ⟨by rw [z, hs, List.length_append]; rfl, fun k hk => ?_, fun k c hk => ?_⟩
  · rw [o k (by omega)]
    exact h.2.1 k hk
  · by_cases hl : k < σ.length
    · rw [List.getElem?_append_left hl] at hk
      exact (h.2.2 k c hk).kept (o (b + k) (by omega))
    · have hk2 := (List.getElem?_eq_some_iff.mp hk).1
      rw [List.length_append] at hk2
      have e : k = σ.length := by
        have : [q].length = 1 := rfl
        omega
      subst e
      rw [List.getElem?_append_right (Nat.le_refl _), Nat.sub_self] at hk
      cases hk
      exact hq
theorem sm_w.P {b : Nat} {x : Nat → Nat} {H0 : Heap} {D : va_G} {aC : Nat → ClassId} {σ : sm_H} {H : Heap} (h : sm_w b x H0 D aC σ H) {a : Nat} {q : sm_C} (hq : σ[a]? = some q) : va_P D mt_cl [(b + a, sm_e b x aC q)] H := by
  intro k y hk
  have hz : k < 1 := (List.getElem?_eq_some_iff.mp hk).1
  obtain rfl : k = 0 := by omega
  cases hk
  exact h.2.2 a q hq
/-- the words that every method takes along -/
def sm_GW : List Cond := lw_tbl.filter goodWord
def sm_nest (w : Cond) : Bool := match w with
  | .fieldLinkNest _ _ _ _ _ _ => true
  | .methodLinkNest _ _ _ _ => true
  | _ => false
def sm_gs (q : Nat) : String × String × String := match q with
  | 0 => ("java/lang/String", "COMPACT_STRINGS", "Z")
  | _ => ("jdk/internal/util/Preconditions", "SIOOBE_FORMATTER", "Ljava/util/function/BiFunction;")
def sm_ao (w : Cond) : Bool := match w with
  | .arrayOver (.object _) => true
  | .arrayOver (.array _) => true
  | _ => false
theorem sm_ao_arr {ty : FieldType} {u U : State} (hvm : u.vm.Alike U.vm) (h : (Cond.arrayOver (.array ty)).before #[] u = true) : (Cond.arrayOver (.array ty)).before #[] U = true := by
  obtain ⟨comp, c, k, h1, h2, h3, h4, h5⟩ := arrayOverA_spec h
  obtain ⟨k', hk', he⟩ := hvm.2.2 _ _ h3
  have hi : (U.vm.classes.findIdx? fun (x : Class) => match x.kind with | .array component _ => component == comp | _ => false) = some c := by
    rw [hvm.findIdx?_eq _ (fun _ => rfl)]
    exact h2
  have hkind : k'.kind = .array comp (.array ty) := by rw [he]; exact h4
  have f1 : U.vm.findClass (FieldType.array ty).toString = some comp := by rw [hvm.findClass]; exact h1
  have f2 : U.vm.findClass ("[" ++ (FieldType.array ty).toString) = some c := by rw [hvm.findClass]; exact h5
  unfold Cond.before Cond.holds
  simp only [Cond.value]
  rw [f1, Option.bind_some]
  refine (congrArg (fun o : Option Nat => (o.bind (fun c => (U.vm.classes[c]?).map fun (k : Class) => match k.kind with | .array _ ty2 => decide (ty2 = FieldType.array ty) && decide (U.vm.findClass ("[" ++ (FieldType.array ty).toString) = some c) | _ => false) == some true)) hi).trans ?_
  simp [hk', hkind, f2]
theorem sm_ao_moved {w : Cond} (hw : sm_ao w = true) {u U : State} (hvm : u.vm.Alike U.vm) (h : w.before #[] u = true) : w.before #[] U = true := by
  unfold sm_ao at hw
  split at hw
  · exact va_AO.moved hvm h
  · exact sm_ao_arr hvm h
  · cases hw
theorem sm_ao_args {w : Cond} (hw : sm_ao w = true) {A : Array Value} {U : State} (h : w.before #[] U = true) : w.before A U = true := by
  unfold sm_ao at hw
  split at hw
  · exact h
  · exact h
  · cases hw
/-- the texts: each is a String of these bytes -/
def sm_SK (N : Nat) (len : List Nat) (byt : List (List Int32)) (adK adV : Nat → Nat) (A : Nat → Prop) (U : State) (H : Heap) : Prop :=
  ∀ i : Nat, i < N → va_O "java/lang/String" (adK i) A U H ∧ va_OF "java/lang/String" "coder" "B" (.int 0) (adK i) A U H ∧ va_OF "java/lang/String" "value" "[B" (.ref (adV i)) (adK i) A U H ∧ va_T .byte (adV i) (len.getD i 0) (fun j => .int ((byt.getD i []).getD j 0)) A U H
theorem sm_SK.moved {N : Nat} {len : List Nat} {byt : List (List Int32)} {adK adV : Nat → Nat} {A : Nat → Prop} {u U : State} {H : Heap} (hvm : u.vm.Alike U.vm) (h : sm_SK N len byt adK adV A u H) : sm_SK N len byt adK adV A U H :=
  fun i hi => ⟨va_O.moved hvm (h i hi).1, va_OF.moved hvm (h i hi).2.1, va_OF.moved hvm (h i hi).2.2.1, va_T.moved hvm (h i hi).2.2.2⟩
def sm_G (b : Nat) (x : Nat → Nat) (H0 : Heap) (D : va_G) (aC : Nat → ClassId) (X : Option (Nat × (Nat → Int32))) (U : State) : Prop :=
  (∀ (k : Nat) (q : vw_C), mt_cl[k]? = some q → u_Kn U q.1 q.2.1 q.2.2 (D.1 k) (D.2 k)) ∧
  (∀ t : Nat, t < mt_el.length → ArrOfT U (aC t) (sm_el t) ∧ U.vm.findClass ("[" ++ (sm_el t).toString) = some (aC t)) ∧
  (∀ t : Nat, t < mt_el.length → (sm_el t).isReference = true → ∃ (kA : Class) (comp : ClassId), U.vm.classes[aC t]? = some kA ∧ kA.kind = .array comp (sm_el t) ∧ U.vm.findClass (sm_elS t) = some comp) ∧
  (∀ w ∈ lw_tbl, sm_nest w = true → va_Nw w U) ∧
  sm_SK mt_sb.length (mt_sb.map List.length) mt_sb (fun i => x (2 * i)) (fun i => x (2 * i + 1)) (fun q => b ≤ q) U H0 ∧
  (∀ (o : Nat) (e : Nat × Nat × Nat), e ∈ mt_cs.getD o [] → vk_R (sm_on o) e.1 (mt_st.getD e.2.1 "") (x (2 * e.2.1)) U) ∧
  ((∀ Y : Nat × (Nat → Int32), X = some Y → va_X (x 100000) Y.1 Y.2 U H0) ∧ x 100000 < b) ∧
  (∀ (o : Nat) (e : Nat × Value × Nat × Nat), e ∈ mt_gs.getD o [] → va_Z (sm_gs e.2.2.1).1 (sm_gs e.2.2.1).2.1 (sm_gs e.2.2.1).2.2 (sm_r b x e.2.1) (fun q => b ≤ q) U H0) ∧
  ∀ w ∈ lw_tbl, sm_ao w = true → w.before #[] U = true
theorem sm_nestS {w : Cond} (h : sm_nest w = true) : w.onTables = true := by
  cases w <;> first | rfl | cases h
theorem sm_G.same {b : Nat} {x : Nat → Nat} {H0 : Heap} {D : va_G} {aC : Nat → ClassId} {X : Option (Nat × (Nat → Int32))} {u U : State} (hv : U.vm = u.vm) (h : sm_G b x H0 D aC X u) : sm_G b x H0 D aC X U := by
  have hal : u.vm.Alike U.vm := hv ▸ Vm.Alike.refl u.vm
  obtain ⟨h1, h2, h3, h4, h5, h6, h7, h8, h9⟩ := h
  refine ⟨fun k q hk => u_Kn_moved hal (h1 k q hk), fun t ht => ⟨arrOfT_moved hal (h2 t ht).1, by rw [hv]; exact (h2 t ht).2⟩, fun t ht hr => ?_, fun w hw hn => va_Nw.same (sm_nestS hn) hv.symm (h4 w hw hn), h5.moved hal, fun o e he => vk_R.same hv (h6 o e he), ⟨fun Y hY => (h7.1 Y hY).moved hal, h7.2⟩, fun o e he => (h8 o e he).moved hal, fun w hw ha => sm_ao_moved ha hal (h9 w hw ha)⟩
  obtain ⟨kA, comp, q1, q2, q3⟩ := h3 t ht hr
  exact ⟨kA, comp, by rw [hv]; exact q1, q2, by rw [hv]; exact q3⟩
theorem sm_G.warm {b : Nat} {x : Nat → Nat} {H0 : Heap} {D : va_G} {aC : Nat → ClassId} {X : Option (Nat × (Nat → Int32))} {s U : State} (hW : s.WarmedH U.vm) (h : sm_G b x H0 D aC X s) : sm_G b x H0 D aC X U := by
  have hal : s.vm.Alike U.vm := hW.alike
  obtain ⟨h1, h2, h3, h4, h5, h6, h7, h8, h9⟩ := h
  refine ⟨fun k q hk => u_Kn_moved hal (h1 k q hk), fun t ht => ⟨arrOfT_moved hal (h2 t ht).1, by rw [hal.findClass]; exact (h2 t ht).2⟩, fun t ht hr => ?_, fun w hw hn => ?_, h5.moved hal, fun o e he => vk_R.warm hW (h6 o e he), ⟨fun Y hY => (h7.1 Y hY).moved hal, h7.2⟩, fun o e he => (h8 o e he).moved hal, fun w hw ha => sm_ao_moved ha hal (h9 w hw ha)⟩
  · obtain ⟨kA, comp, q1, q2, q3⟩ := h3 t ht hr
    obtain ⟨k', hk', he⟩ := hal.2.2 _ _ q1
    exact ⟨k', comp, hk', by rw [he]; exact q2, by rw [hal.findClass]; exact q3⟩
  · have h0 := h4 w hw hn
    cases w <;> first
      | exact va_Nw.warmF hW h0
      | exact va_Nw.warmM hW h0
      | cases hn
theorem sm_at_mem {α : Type} {tb : List (List (Nat × α))} {o k : Nat} {e : Nat × α} (h : sm_at tb o k = some e) : e ∈ tb.getD o [] ∧ e.1 = k := by
  unfold sm_at at h
  exact ⟨List.mem_of_find?_eq_some h, by simpa using List.find?_some h⟩
theorem sm_row {α : Type} {tb : List (List α)} {P : α → Bool} (h : (tb.all fun r => r.all P) = true) {o : Nat} {e : α} (he : e ∈ tb.getD o []) : P e = true := by
  by_cases ho : o < tb.length
  · have h1 : tb.getD o [] ∈ tb := by
      rw [List.getD_eq_getElem?_getD, List.getElem?_eq_getElem ho]
      exact List.getElem_mem ho
    exact List.all_eq_true.mp (List.all_eq_true.mp h _ h1) e he
  · rw [List.getD_eq_getElem?_getD, List.getElem?_eq_none (Nat.le_of_not_lt ho)] at he
    cases he
theorem sm_Tat {ci : Nat} (h : ci < mt_cl.length) : mt_cl[ci]? = some (sm_T ci) := by
  unfold sm_T
  rw [List.getD_eq_getElem?_getD, List.getElem?_eq_getElem h]
  rfl
theorem sm_fchk : (mt_f.all fun r => r.all fun e => decide (e.2.1 < mt_cl.length) && decide (e.2.2.1 < (sm_T e.2.1).2.2)) = true := by decide +kernel
theorem sm_field {o k k' ci fk ho pl : Nat} (h : sm_at mt_f o k = some (k', ci, fk, ho, pl)) : k' = k ∧ ci < mt_cl.length ∧ fk < (sm_T ci).2.2 ∧
    ((ho = 0 ∧ Cond.fieldLink (sm_on o) k ((sm_T ci).2.1 fk).1 ((sm_T ci).2.1 fk).2.1 ((sm_T ci).2.1 fk).2.2.1 ∈ sm_GW) ∨
     (ho ≠ 0 ∧ Cond.fieldLinkNest (sm_on o) k ((sm_T ci).2.1 fk).1 ((sm_T ci).2.1 fk).2.1 ((sm_T ci).2.1 fk).2.2.1 (sm_ho ho) ∈ lw_tbl)) := by
  obtain ⟨h1, h2⟩ := sm_at_mem h
  have h3 := sm_row sm_fchk h1
  simp only [Bool.and_eq_true, decide_eq_true_eq] at h3
  have h4 := List.map_inj_left.mp (sm_fwok_all o) _ h1
  dsimp only at h2 h3 h4
  subst h2
  have h5 := List.mem_of_getElem? h4
  refine ⟨rfl, h3.1, h3.2, ?_⟩
  by_cases hz : ho = 0
  · refine Or.inl ⟨hz, ?_⟩
    unfold sm_fw at h5
    rw [if_pos hz] at h5
    exact List.mem_filter.mpr ⟨h5, by first | rfl | simp [goodWord, Cond.onTables, Cond.keeps, Cond.steady]⟩
  · refine Or.inr ⟨hz, ?_⟩
    unfold sm_fw at h5
    rw [if_neg hz] at h5
    exact h5
theorem sm_uws : ∀ ci, ci < mt_cl.length → ∀ w ∈ u_ws (sm_T ci).1 (sm_T ci).2.1 (sm_T ci).2.2, w ∈ sm_GW := by
  intro ci h w hw
  have h1 := sm_uw_all ci h w hw
  refine List.mem_filter.mpr ⟨h1, ?_⟩
  obtain ⟨k, -, rfl⟩ := List.mem_map.mp hw
  unfold u_lay
  split <;> first | rfl | simp [goodWord, Cond.onTables, Cond.keeps, Cond.steady]
theorem sm_K1 {b : Nat} {x : Nat → Nat} {H0 : Heap} {D : va_G} {aC : Nat → ClassId} {X : Option (Nat × (Nat → Int32))} {s : State} (G : sm_G b x H0 D aC X s) {t : Nat} (ht : t < mt_el.length) : va_K D mt_cl [(aC t, sm_el t)] s := by
  refine ⟨G.1, fun k q hk => ?_⟩
  have hz : k < 1 := (List.getElem?_eq_some_iff.mp hk).1
  obtain rfl : k = 0 := by omega
  cases hk
  refine ⟨(G.2.1 t ht).1, ?_⟩
  have hf := (G.2.1 t ht).2
  have hr := G.2.2.1 t ht
  generalize hty : sm_el t = ty at *
  cases ty with
  | object C =>
    obtain ⟨kA, comp, q1, q2, q3⟩ := hr rfl
    have : sm_elS t = C := by unfold sm_elS; rw [hty]
    exact ⟨kA, comp, q1, q2, this ▸ q3, hf⟩
  | _ => exact hf
theorem sm_K0 {b : Nat} {x : Nat → Nat} {H0 : Heap} {D : va_G} {aC : Nat → ClassId} {X : Option (Nat × (Nat → Int32))} {s : State} (G : sm_G b x H0 D aC X s) : va_K D mt_cl [] s := ⟨G.1, fun k q hk => by simp at hk⟩
