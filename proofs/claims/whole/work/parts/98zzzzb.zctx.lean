/-! STATEMENTS OF THE REFERENCE: tokens asked; the names of functions (pure); the context of a statement -/
section
variable {β : Nat → Nat} {n : Nat} {V : Nat → Int32} {P : Nat → Int32 → Int32 × Int32} {own0 : Nat → Nat × Nat} {m u k1 : Nat} {S0 S S1 S2 : cS} {H B0 W d l c w t f f1 b j s K : Nat} {X : Nat → Nat} {o1 o2 : List Op} {A : Prop}
theorem z_bad (hX : zX β n V own0 m k1 S0) (h : zE own0 m u S0 H B0 c w t f b S) (ha : sI S 6115 = nI j) (hf : sI S 6116 = nI 0) (hj : j ≤ k1) (hw : w ≤ W) (ht : t ≤ W) (hfW : f ≤ W) : Ans (d + 2) 299 [.ref 61] S (some (.int (nI 0))) (wI 6116 (nI (fl β n j)) S) ∧ zB own0 m u S0 H B0 W (fl β n j) (wI 6116 (nI (fl β n j)) S) := by
  obtain ⟨own, hE, hback⟩ := zE_rE h
  obtain ⟨g0, g1, nn, hnn, hT⟩ := zX_T hX h
  have hk := hX.2.1
  exact ⟨bad_T hE (hT j hj) hX.1 ha (by omega) hf, ⟨c, w, t, f, b, zE_wI h (by decide), hw, ht, hfW⟩, rIe _ _ _, j, by omega, (rIn _ _ (by decide)).trans ha⟩
theorem z_sg (hX : zX β n V own0 m k1 S0) (h : zE own0 m u S0 H B0 c w t f b S) (ha : sI S 6115 = nI j) (hj : j ≤ k1) (hK : 6 ≤ K ∧ K ≤ 29) : Ans (d + 1) 314 [.ref 61, .int (nI (rsg K))] S (some (.int (bI (Nat.beq (qK β n j) K)))) S := by
  obtain ⟨own, hE, hback⟩ := zE_rE h
  obtain ⟨g0, g1, nn, hnn, hT⟩ := zX_T hX h
  have hk := hX.2.1
  exact is_sg hE (hT j hj) ha (by omega) hK
theorem z_sgT (hX : zX β n V own0 m k1 S0) (h : zE own0 m u S0 H B0 c w t f b S) (ha : sI S 6115 = nI j) (hj : j ≤ k1) (hK : 6 ≤ K ∧ K ≤ 29) (e : qK β n j = K) : Ans (d + 1) 314 [.ref 61, .int (nI (rsg K))] S (some (.int (nI 1))) S := by
  have := z_sg (d := d) hX h ha hj hK
  rw [beq_yes e] at this
  exact this
theorem z_sgF (hX : zX β n V own0 m k1 S0) (h : zE own0 m u S0 H B0 c w t f b S) (ha : sI S 6115 = nI j) (hj : j ≤ k1) (hK : 6 ≤ K ∧ K ≤ 29) (e : qK β n j ≠ K) : Ans (d + 1) 314 [.ref 61, .int (nI (rsg K))] S (some (.int (nI 0))) S := by
  have := z_sg (d := d) hX h ha hj hK
  rw [beq_no e] at this
  exact this
theorem z_wdT (hX : zX β n V own0 m k1 S0) (h : zE own0 m u S0 H B0 c w t f b S) (ha : sI S 6115 = nI j) (hj : j ≤ k1) (hK : K < 24) (e : qK β n j = 40 + K) : Ans (d + 1) 309 [.ref 61, .int (nI K)] S (some (.int (nI 1))) S := by
  obtain ⟨own, hE, hback⟩ := zE_rE h
  obtain ⟨g0, g1, nn, hnn, hT⟩ := zX_T hX h
  have hk := hX.2.1
  have := is_wd (d := d) hE (hT j hj) ha (by omega) hK
  rw [beq_yes e] at this
  exact this
theorem z_wdF (hX : zX β n V own0 m k1 S0) (h : zE own0 m u S0 H B0 c w t f b S) (ha : sI S 6115 = nI j) (hj : j ≤ k1) (hK : K < 24) (e : qK β n j ≠ 40 + K) : Ans (d + 1) 309 [.ref 61, .int (nI K)] S (some (.int (nI 0))) S := by
  obtain ⟨own, hE, hback⟩ := zE_rE h
  obtain ⟨g0, g1, nn, hnn, hT⟩ := zX_T hX h
  have hk := hX.2.1
  have := is_wd (d := d) hE (hT j hj) ha (by omega) hK
  rw [beq_no e] at this
  exact this
theorem z_tkT (hX : zX β n V own0 m k1 S0) (h : zE own0 m u S0 H B0 c w t f b S) (ha : sI S 6115 = nI j) (hj : j ≤ k1) (hK : 6 ≤ K ∧ K ≤ 29) (e : qK β n j = K) : Ans (d + 3) 323 [.ref 61, .int (nI (rsg K))] S (some (.int (nI 1))) (wI 6115 (nI (j + 1)) S) := by
  obtain ⟨own, hE, hback⟩ := zE_rE h
  obtain ⟨g0, g1, nn, hnn, hT⟩ := zX_T hX h
  have hk := hX.2.1
  exact take_T hE (hT j hj) ha (by omega) hK e
theorem z_tkF (hX : zX β n V own0 m k1 S0) (h : zE own0 m u S0 H B0 c w t f b S) (ha : sI S 6115 = nI j) (hf : sI S 6116 = nI 0) (hj : j ≤ k1) (hK : 6 ≤ K ∧ K ≤ 29) (e : qK β n j ≠ K) (hw : w ≤ W) (ht : t ≤ W) (hfW : f ≤ W) : Ans (d + 3) 323 [.ref 61, .int (nI (rsg K))] S (some (.int (nI 0))) (wI 6116 (nI (fl β n j)) S) ∧ zB own0 m u S0 H B0 W (fl β n j) (wI 6116 (nI (fl β n j)) S) := by
  obtain ⟨own, hE, hback⟩ := zE_rE h
  obtain ⟨g0, g1, nn, hnn, hT⟩ := zX_T hX h
  have hk := hX.2.1
  exact ⟨take_F hE (hT j hj) hX.1 ha (by omega) hf hK e, ⟨c, w, t, f, b, zE_wI h (by decide), hw, ht, hfW⟩, rIe _ _ _, j, by omega, (rIn _ _ (by decide)).trans ha⟩
/-- what the arrays say of token j -/
theorem z_tok (hX : zX β n V own0 m k1 S0) (h : zE own0 m u S0 H B0 c w t f b S) (hj : j ≤ k1) : sA S 67 j = nI (rkd (qK β n j)) ∧ sA S 69 j = nI (qL β n j) ∧ (qK β n j ≠ 1 → qK β n j ≠ 2 → sA S 70 j = nI (qI β n j)) ∧ (qK β n j = 1 ∨ qK β n j = 2 → sA S 70 j = nI 0) ∧ sA S 68 j = V j ∧ (qK β n j = 3 → ∃ r, r < 90000 ∧ V j = nI r) ∧ (40 ≤ qK β n j → V j = nI (qK β n j - 40)) ∧ (6 ≤ qK β n j → qK β n j < 40 → V j = nI (rsg (qK β n j))) := by
  obtain ⟨g0, g1, nn, hnn, hT⟩ := zX_T hX h
  obtain ⟨t1, t2, t3, t4, t5, t6, t7, t8, t9, t10⟩ := hT j hj
  have e68 : sA S 68 j = V j := by rw [(zE_tk hX h (a := 68) (by omega) (by omega)).1, hX.2.2.2.2.2.2.1 j]
  refine ⟨t1, t2, fun h1 h2 => ?_, t10, e68, fun e => ?_, fun e => e68.symm.trans (t5 e), fun e1 e2 => e68.symm.trans (t6 ⟨e1, e2⟩)⟩
  · by_cases h0 : qK β n j = 0
    · exact t9 h0
    · exact t3 (by omega)
  · obtain ⟨r, r1, r2, _⟩ := t4 e
    exact ⟨r, by omega, e68.symm.trans r2⟩
theorem z_nlT (hX : zX β n V own0 m k1 S0) (h : zE own0 m u S0 H B0 c w t f b S) (ha : sI S 6115 = nI j) (hj : j ≤ k1) (e : qK β n j = 2) : Ans (d + 9) 332 [.ref 61] S (some (.int (nI 1))) (wI 6115 (nI (j + 1)) S) := by
  have hk := hX.2.1
  obtain ⟨t1, _⟩ := z_tok hX h hj
  rw [e] at t1
  exact Ans.of (by rw [ml_332]; exact Nat.le_of_ble_eq_true rfl) (zNl_1 ha (by omega) t1 (by decide) rfl)
theorem z_nlF (hX : zX β n V own0 m k1 S0) (h : zE own0 m u S0 H B0 c w t f b S) (ha : sI S 6115 = nI j) (hf : sI S 6116 = nI 0) (hj : j ≤ k1) (e : qK β n j ≠ 2) (hw : w ≤ W) (ht : t ≤ W) (hfW : f ≤ W) : Ans (d + 9) 332 [.ref 61] S (some (.int (nI 0))) (wI 6116 (nI (fl β n j)) S) ∧ zB own0 m u S0 H B0 W (fl β n j) (wI 6116 (nI (fl β n j)) S) := by
  have hk := hX.2.1
  obtain ⟨t1, _⟩ := z_tok hX h hj
  obtain ⟨b1, b2⟩ := z_bad (d := d + 6) hX h ha hf hj hw ht hfW
  have hlt := rkd_lt (qK β n j)
  refine ⟨Ans.of (by rw [ml_332]; exact Nat.le_of_ble_eq_true rfl) (zNl_2 ha (by omega) t1 (by omega) (fun h6 => e ?_) b1), b2⟩
  unfold rkd at h6
  repeat' split at h6
  all_goals omega
end
/-! the names of a function, out of its tokens: what its block binds, what it tells global -/
/-- where the next line begins -/
def nxK (K : Nat → Nat) : Nat → Nat → Nat
  | 0, k => k
  | f + 1, k => if K k = 2 then k + 1 else nxK K f (k + 1)
def bindH (l : List Int32) (x : Int32) : List Int32 := if x ∈ l then l else l ++ [x]
abbrev asg (k : Nat) : Prop := k = 19 ∨ (23 ≤ k ∧ k ≤ 25)
/-- blocks that are passed over -/
def skN (i : Nat) : Option Nat → Option Nat
  | some j => if i ≤ j then none else some j
  | none => none
/-- what a line binds -/
def lnB (K : Nat → Nat) (V : Nat → Int32) (k : Nat) (l : List Int32) : List Int32 :=
  if (K k = 46 ∨ K k = 47 ∨ K k = 44 ∨ K k = 55 ∨ (K k = 52 ∧ K (k + 2) = 2)) ∧ K (k + 1) = 3 then bindH l (V (k + 1))
  else if K k = 3 ∧ asg (K (k + 1)) then bindH l (V k) else l
def lnS (K I : Nat → Nat) (k : Nat) : Option Nat := if K k = 46 ∨ K k = 47 then some (I k) else none
def scn1 (K I : Nat → Nat) (V : Nat → Int32) (own : Nat) : Nat → Nat → Option Nat → List Int32 → List Int32
  | 0, _, _, l => l
  | f + 1, k, sk, l => if K k = 1 ∨ I k ≤ own then l else match skN (I k) sk with
    | some i => scn1 K I V own f (nxK K 6001 k) (some i) l
    | none => scn1 K I V own f (nxK K 6001 k) (lnS K I k) (lnB K V k l)
def erH (p : Nat) (l : List Int32) (x : Int32) : List Int32 := match l.findIdx? (fun y => y == x) with
  | some i => if i < p then l else l.eraseIdx i
  | none => l
def scnG (K : Nat → Nat) (V : Nat → Int32) (p : Nat) : Nat → Nat → List Int32 × List Int32 → List Int32 × List Int32
  | 0, _, lo => lo
  | f + 1, j, lo => if K j = 2 then lo else scnG K V p f (j + 1) (if K j = 3 then (erH p lo.1 (V j), lo.2 ++ [V j]) else lo)
def scn2 (K I : Nat → Nat) (V : Nat → Int32) (own p : Nat) : Nat → Nat → Option Nat → List Int32 × List Int32 → List Int32 × List Int32
  | 0, _, _, lo => lo
  | f + 1, k, sk, lo => if K k = 1 ∨ I k ≤ own then lo else match skN (I k) sk with
    | some i => scn2 K I V own p f (nxK K 6001 k) (some i) lo
    | none => scn2 K I V own p f (nxK K 6001 k) (lnS K I k) (if K k = 53 then scnG K V p 6001 (k + 1) lo else lo)
/-- parameters, from the first on -/
def prmL (K : Nat → Nat) (V : Nat → Int32) : Nat → Nat → List Int32
  | 0, _ => []
  | f + 1, k => if K k = 3 then V k :: (if K (k + 1) = 12 then prmL K V f (k + 2) else []) else []
/-- behind the ) of the function with its name at token q -/
def hdE (K : Nat → Nat) (V : Nat → Int32) (q : Nat) : Nat := if K (q + 2) = 7 then q + 3 else q + 2 + 2 * (prmL K V 9 (q + 2)).length
def lcO (K I : Nat → Nat) (V : Nat → Int32) (q : Nat) : List Int32 × List Int32 := scn2 K I V (I q) (prmL K V 9 (q + 2)).length 6001 (hdE K V q + 2) none (scn1 K I V (I q) 6001 (hdE K V q + 2) none (prmL K V 9 (q + 2)), [])
/-- from scope s outwards; T: the scope around, the token of the name -/
def wlk (K I : Nat → Nat) (V : Nat → Int32) (T : Nat → Nat × Nat) : Nat → Nat → Nat → Int32 → Int32 × Int32
  | 0, _, _, _ => (Int32.ofInt (-1), nI 0)
  | f + 1, d, s, x => if s = 0 then (Int32.ofInt (-1), nI 0) else match (lcO K I V (T s).2).1.findIdx? (fun y => y == x) with
    | some i => (nI d, nI i)
    | none => wlk K I V T f (d + 1) (T s).1 x
def zPT (K I : Nat → Nat) (V : Nat → Int32) (T : Nat → Nat × Nat) (s : Nat) (x : Int32) : Int32 × Int32 := if s ≠ 0 ∧ x ∈ (lcO K I V (T s).2).2 then (Int32.ofInt (-1), nI 0) else wlk K I V T 20 0 s x
/-- T tells the scopes -/
def agT (T : Nat → Nat × Nat) (l : List (Nat × Nat × Nat × Nat)) : Prop := ∀ i e, l[i]? = some e → T i = (e.1, e.2.2.2)
theorem agT_pre {T : Nat → Nat × Nat} {l l2 : List (Nat × Nat × Nat × Nat)} (h : agT T (l ++ l2)) : agT T l := fun i e hi => h i e (by rw [List.getElem?_append_left (List.getElem?_eq_some_iff.mp hi).1]; exact hi)
/-- the name of token k is a parameter of scope s -/
def kp (E : Nat → Nat → Bool) (sc : SCs) (s k : Nat) : Prop := ∃ e, scF E sc s k = some e ∧ e.2.2 = 1
/-- names in an array -/
theorem lf_l {B : Nat → Int32} {x : Int32} : ∀ (l : List Int32) (a : Nat), (∀ i y, l[i]? = some y → B (a + i) = y) → lf B x l.length a = (l.findIdx? (fun y => y == x)).map (fun i => a + i) := by
  intro l
  induction l with
  | nil => intro a _; rfl
  | cons y r ih =>
    intro a h
    have h0 : B a = y := h 0 y rfl
    show (if B a = x then some a else lf B x r.length (a + 1)) = _
    rw [List.findIdx?_cons]
    by_cases hx : y = x
    · rw [if_pos (by rw [h0, hx]), if_pos (by rw [hx]; exact beq_self_eq_true x)]
      rfl
    · rw [if_neg (by rw [h0]; exact hx), if_neg (by simp [hx]), ih (a + 1) (fun i z hz => by rw [Nat.add_assoc, Nat.add_comm 1 i]; exact h (i + 1) z hz), Option.map_map]
      congr 1
      funext i
      show a + 1 + i = a + (i + 1)
      omega
/-- where the lines of a block end -/
def enR (K I : Nat → Nat) (own : Nat) : Nat → Nat → Nat
  | 0, k => k
  | f + 1, k => if K k = 1 ∨ I k ≤ own then k else enR K I own f (nxK K 6001 k)
/-- token k lies in the lines from st on -/
def rgS (K I : Nat → Nat) (own st k : Nat) : Prop := st ≤ k ∧ ∀ j, st ≤ j → j ≤ k → own < I j ∧ K j ≠ 1
/-- or k is the colon before them -/
def rgn (K I : Nat → Nat) (own st k : Nat) : Prop := rgS K I own st k ∨ (k + 2 = st ∧ own = I k ∧ K k = 13 ∧ K (k - 1) = 7 ∧ 1 ≤ k)
/-- entries are of scopes that are there -/
def wfS (sc : SCs) : Prop := ∀ e, e ∈ sc.2 → e.1 < sc.1.length
/-- the scopes that are open: functions' names in the arrays; ch: their numbers, q: the tokens of their names, U: how much room they take -/
def zSc (K I : Nat → Nat) (E : Nat → Nat → Bool) (V : Nat → Int32) (T : Nat → Nat × Nat) (A : Prop) (sc : SCs) (s F nl no ind k : Nat) (S : cS) : Prop := ∃ (ls os : Nat → List Int32) (a b pm ch q : Nat → Nat) (U : Nat), (ch 0 = 0 ∧ wfS sc) ∧ ch F = s ∧ (F = 0 → nl = 0 ∧ no = 0) ∧ (nl ≤ U ∧ no ≤ U ∧ U ≤ 6000) ∧ (1 ≤ F → K k ≠ 1 → ind ≤ I k → rgn K I (I (q F)) (hdE K V (q F) + 2) k) ∧ (∀ k', K k' = 46 → K (k' - 1) = 2 ∨ k' = 0 → (1 ≤ F → rgS K I (I (q F)) (hdE K V (q F) + 2) k') → U + (enR K I (I k') 6001 (nxK K 6001 k') - k') ≤ 6000) ∧ ∀ f, 1 ≤ f → f ≤ F → (sA S 75 f = nI (a f) ∧ sA S 83 f = nI (b f) ∧ sA S 76 f = nI (pm f) ∧ pm f ≤ (ls f).length ∧ a f + (ls f).length = (if f = F then nl else a (f + 1)) ∧ b f + (os f).length = (if f = F then no else b (f + 1)) ∧ (∀ i y, (ls f)[i]? = some y → sA S 74 (a f + i) = y) ∧ (∀ i y, (os f)[i]? = some y → sA S 82 (b f + i) = y)) ∧ (ch f ≠ 0 ∧ ch f < sc.1.length ∧ lcO K I V (q f) = (ls f, os f) ∧ (A → T (ch f) = (ch (f - 1), q f))) ∧ ∀ j, K j = 3 → (kp E sc (ch f) j ↔ V j ∈ (ls f).take (pm f))
theorem wlk_n {K I : Nat → Nat} {V : Nat → Int32} {T : Nat → Nat × Nat} {ls : Nat → List Int32} {a ch q : Nat → Nat} {B : Nat → Int32} {en : Nat → Nat} {F : Nat} {x : Int32} (h0 : ch 0 = 0) (h : ∀ f, 1 ≤ f → f ≤ F → a f + (ls f).length = en f ∧ (∀ i y, (ls f)[i]? = some y → B (a f + i) = y) ∧ ch f ≠ 0 ∧ (lcO K I V (q f)).1 = ls f ∧ T (ch f) = (ch (f - 1), q f)) : ∀ f g, f ≤ F → f < g → wlk K I V T g (F - f) (ch f) x = nres B a en F x f := by
  intro f
  induction f with
  | zero =>
    intro g hf hg
    obtain ⟨g', rfl⟩ : ∃ g', g = g' + 1 := ⟨g - 1, by omega⟩
    rw [h0]
    rfl
  | succ f ih =>
    intro g hf hg
    obtain ⟨g', rfl⟩ : ∃ g', g = g' + 1 := ⟨g - 1, by omega⟩
    obtain ⟨c1, c2, c3, c4, c5⟩ := h (f + 1) (by omega) hf
    have hl := lf_l (x := x) (ls (f + 1)) (a (f + 1)) c2
    show (if ch (f + 1) = 0 then _ else match (lcO K I V (T (ch (f + 1))).2).1.findIdx? (fun y => y == x) with
      | some i => (nI (F - (f + 1)), nI i)
      | none => wlk K I V T g' (F - (f + 1) + 1) (T (ch (f + 1))).1 x) = (match lf B x (en (f + 1) - a (f + 1)) (a (f + 1)) with
      | some q => (nI (F - (f + 1)), nI (q - a (f + 1)))
      | none => nres B a en F x f)
    rw [if_neg c3, c5, show en (f + 1) - a (f + 1) = (ls (f + 1)).length by omega, hl]
    dsimp only
    rw [c4]
    cases (ls (f + 1)).findIdx? (fun y => y == x) with
    | some i =>
      show _ = (nI (F - (f + 1)), nI (a (f + 1) + i - a (f + 1)))
      rw [Nat.add_sub_cancel_left]
    | none =>
      show wlk K I V T g' (F - (f + 1) + 1) (ch (f + 1 - 1)) x = nres B a en F x f
      rw [show F - (f + 1) + 1 = F - f by omega, Nat.add_sub_cancel]
      exact ih g' (by omega) (by omega)
theorem lf_mem {B : Nat → Int32} {x : Int32} (l : List Int32) (a : Nat) (h : ∀ i y, l[i]? = some y → B (a + i) = y) : (lf B x l.length a).isSome = true ↔ x ∈ l := by
  rw [lf_l l a h, Option.isSome_map]
  rw [List.findIdx?_isSome]
  rw [List.any_eq_true]
  exact ⟨fun ⟨y, h1, h2⟩ => by rw [← eq_of_beq h2]; exact h1, fun hx => ⟨x, hx, beq_self_eq_true x⟩⟩
/-- names are where the scopes say -/
theorem zSc_N {K I : Nat → Nat} {E : Nat → Nat → Bool} {V : Nat → Int32} {T : Nat → Nat × Nat} {A : Prop} {sc : SCs} {s F nl no ind k : Nat} {S : cS} (h : zSc K I E V T A sc s F nl no ind k S) (h2 : sI S 6122 = nI F) (hF : F < 15) (h3 : sI S 6123 = nI nl) (h7 : sI S 6137 = nI no) : zN (zPT K I V T) A s S := by
  obtain ⟨ls, os, a, b, pm, ch, q, U, c0, cF, cn, ⟨u1, u2, u3⟩, hr, hu, hf⟩ := h
  have hle : ∀ d f, 1 ≤ f → f + d = F → a f + (ls f).length ≤ nl := by
    intro d
    induction d with
    | zero =>
      intro f h1 h2
      obtain ⟨⟨_, _, _, _, e5, _⟩, _⟩ := hf f h1 (by omega)
      rw [if_pos (by omega)] at e5
      omega
    | succ d ih =>
      intro f h1 h2
      obtain ⟨⟨_, _, _, _, e5, _⟩, _⟩ := hf f h1 (by omega)
      rw [if_neg (by omega)] at e5
      have := ih (f + 1) (by omega) (by omega)
      omega
  refine ⟨F, a, fun f => a f + (ls f).length, b F, no, ⟨h2, hF, fun f f1 f2 => ?_, fun f1 => ?_⟩, fun hA x => ?_⟩
  · obtain ⟨⟨e1, e2, e3, e4, e5, e6, e7, e8⟩, _⟩ := hf f f1 f2
    have := hle (F - f) f f1 (by omega)
    refine ⟨e1, Nat.le_add_right _ _, by dsimp only; omega, ?_⟩
    by_cases he : f = F
    · rw [if_pos he] at e5
      exact Or.inl ⟨he, by rw [h3, ← e5]⟩
    · rw [if_neg he] at e5
      obtain ⟨⟨g1, _⟩, _⟩ := hf (f + 1) (by omega) (by omega)
      exact Or.inr ⟨by omega, by rw [g1, ← e5]⟩
  · obtain ⟨⟨e1, e2, e3, e4, e5, e6, e7, e8⟩, _⟩ := hf F f1 (Nat.le_refl _)
    rw [if_pos rfl] at e6
    exact ⟨h7, by omega, by omega, e2⟩
  · have hw := wlk_n (K := K) (I := I) (V := V) (T := T) (ls := ls) (a := a) (ch := ch) (q := q) (B := sA S 74) (en := fun f => a f + (ls f).length) (F := F) (x := x) c0.1 (fun f f1 f2 => by
      obtain ⟨⟨e1, e2, e3, e4, e5, e6, e7, e8⟩, ⟨g1, g2, g3, g4⟩, _⟩ := hf f f1 f2
      exact ⟨rfl, e7, g1, by rw [g3], g4 hA⟩) F 20 (Nat.le_refl _) (by omega)
    rw [Nat.sub_self, cF] at hw
    unfold zPT nplc
    by_cases f1 : 1 ≤ F
    · obtain ⟨⟨e1, e2, e3, e4, e5, e6, e7, e8⟩, ⟨g1, g2, g3, g4⟩, _⟩ := hf F f1 (Nat.le_refl _)
      rw [if_pos rfl] at e6
      rw [cF] at g1 g4
      have hm := lf_mem (x := x) (os F) (b F) e8
      rw [show no - b F = (os F).length by omega, g4 hA]
      dsimp only
      rw [g3]
      dsimp only
      by_cases hx : x ∈ os F
      · rw [if_pos ⟨g1, hx⟩, if_pos ⟨f1, hm.mpr hx⟩]
      · rw [if_neg (fun e => hx e.2), if_neg (fun e => hx (hm.mp e.2))]
        exact hw
    · have hF0 : F = 0 := by omega
      have hs0 : s = 0 := by rw [← cF, hF0]; exact c0.1
      rw [if_neg (fun e => e.1 hs0), if_neg (fun e => f1 e.1)]
      exact hw
