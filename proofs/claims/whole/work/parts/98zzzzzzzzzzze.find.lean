/-! BOTH MACHINES: a key is looked up; a value is put in a new object -/
section
variable {P : Nat → Prop} {T : cS} {gT : Nat} {Q : Nat → Prop} {β β' : Nat → Nat} {F : Nat → Nat → Nat → Prop} {loc par : Nat → Nat → Nat} {ty : Nat → Nat × Nat} {G : Nat → Nat → Nat → Nat × Nat × LL → Prop} {D D' K : List Nat} {z nn g0 g1 g3 g4 g5 gn d d' dr v o i k k0 e n m t tp tt r0 : Nat} {tq : Nat → Nat × Nat} {C r : List Lv} {x : Lv} {S S' S1 X W Sc Sr : cS} {f g : Nat → Nat} {hi lo kh kl a b : Int64} {kd rb : Int32}
/-- entry e is the first with this key; or none has it -/
def keyAt (S : cS) (k : Nat) (kh kl : Int64) (o : Option Nat) : Prop := match o with
  | some e => e < h_n S k ∧ (h_kh S k e = kh ∧ h_kl S k e = kl) ∧ ∀ j, j < e → ¬ (h_kh S k j = kh ∧ h_kl S k j = kl)
  | none => ∀ j, j < h_n S k → ¬ (h_kh S k j = kh ∧ h_kl S k j = kl)
def fI (o : Option Nat) : Int32 := match o with
  | some e => nI e
  | none => Int32.ofInt (-1)
theorem find_C2 (hl : lv S k) (hok : h_ok S k) (hw : c_width (h_kd S k) = 4) (kh kl : Int64) : ∃ o, keyAt S k kh kl o ∧ ∀ d, Ans (d + 2) 206 [.ref 2, .int (nI k), .long kh, .long kl] S (some (.int (fI o))) S := by
  by_cases c : ∃ e, e < h_n S k ∧ (h_kh S k e = kh ∧ h_kl S k e = kl)
  · obtain ⟨e, e1, e2, e3⟩ := least c
    exact ⟨some e, ⟨e1, e2, e3⟩, fun d => (find_C (d := d) hl hok hw).1 e e1 e2 e3⟩
  · have : ∀ j, j < h_n S k → ¬ (h_kh S k j = kh ∧ h_kl S k j = kl) := fun j hj hc => c ⟨j, hj, hc⟩
    exact ⟨none, this, fun d => (find_C (d := d) hl hok hw).2 this⟩
theorem find_R1 {v2 v3 v4 v5 v6 v7 : Nat} {o : Option Nat} {xa xb : Int64} (h : keyAt S k kh kl o) (wr : tRef Sr r0 t v2 v3 v4 v5 v6 v7 n m) (hz : sI Sr (100 * t + 1) = nI (h_n S k)) (hm : h_n S k ≤ m) (hj : ∀ j, j < m → ∃ e, e < 2 ^ 20 ∧ sA Sr v3 j = nI e) (hiff : ∀ j, j < h_n S k → ((h_kh S k j = kh ∧ h_kl S k j = kl) ↔ kyE Sr v3 v6 v7 kd xa xb j)) : Ans (d + 9) 399 [.ref t, .int kd, .long xa, .long xb] Sr (some (.int (fI o))) Sr := by
  cases o with
  | some e =>
    obtain ⟨e1, e2, e3⟩ := h
    exact rfind_hit (d := d) wr hz hm (fun j hj' => hj j (by omega)) e1 ((hiff e e1).mp e2) (fun j hje hc => e3 j hje ((hiff j (by omega)).mpr hc))
  | none => exact rfind_miss (d := d) wr hz hm (fun j hj' => hj j (by omega)) (fun j hj' hc => h j hj' ((hiff j hj').mpr hc))
/-- the class puts a value in the place of one that is held elsewhere -/
theorem setk_W (h : CIk k0 F loc par ty G tq (x :: r) S) (hk : lv S k) (hkd : h_kd S k = 1 ∨ h_kd S k = 2) (he : e < h_n S k) (hso : ∀ o', c_obj (h_hi S k e) (h_lo S k e) = nI o' → o' ≤ 1500 → o' = 0 ∨ 0 < stE (topC (x :: r)) S o') (ho : c_obj hi lo = nI o) (hol : o = 0 ∨ lv S o) (h0 : c_kind hi ≠ 0 ∧ c_kind hi ≠ nI 5) : ∃ X W, Ans (d + 6) 174 [.ref 2, .int (nI k), .int (nI e), .long hi, .long lo] S none W ∧ mtX k [] S X W ∧ CIk k0 F loc par ty G tq (x :: r) W ∧ (∀ i, sL W 47 i = sL S 47 i ∧ sL W 48 i = sL S 48 i) ∧ h_n X k = h_n S k ∧ h_kd X k = h_kd S k ∧ (∀ i, i < h_n S k → h_hi X k i = (if i = e then hi else h_hi S k i) ∧ h_lo X k i = (if i = e then lo else h_lo S k i)) ∧ (c_width (h_kd S k) = 4 → ∀ i, i < h_n S k → h_kh X k i = h_kh S k i ∧ h_kl X k i = h_kl S k i) ∧ obE X W k := by

  obtain ⟨l1, l2, l3, l4, l5⟩ := CIk_len h
  have hok := mHS_ok h.1 k hk.1 hk.2.1
  obtain ⟨kd, z, k7, z3, k3, k10, ekd, ez, hw⟩ := kdz hok
  have hn : h_n S k = z := by
    unfold h_n
    rw [ez, ekd]
    split
    · rename_i c
      rcases hkd with c1 | c1
      · rw [ekd] at c1; rw [c1] at c; exact absurd c (by decide)
      · rw [ekd] at c1; rw [c1] at c; exact absurd c (by decide)
    · rfl
  have hwid : c_width kd = 2 ∨ c_width kd = 4 := by
    rcases hkd with c1 | c1
    · rw [ekd] at c1; rw [c1]; left; rfl
    · rw [ekd] at c1; rw [c1]; right; rfl
  obtain ⟨X, W, A1, hc, x10, xo, x1, x2⟩ := mset_Ts (d := d) (e := e) h.1 hso h.2.1 hk k3 k7 rfl k10 z3 (by omega) ho hol
  obtain ⟨c1, c2, c3, c4, c5, c6, c7, c8, c10, c11, c12, c13, c14, c15, c16⟩ := hc
  have hM : mtX k [] S X W := ⟨c4, c3, c6, c7, c8, c10, c11, c12, c13, c14, c15⟩
  have eX : h_kd X k = h_kd S k := by unfold h_kd; rw [c12]
  have hnX : h_n X k = h_n S k := by
    unfold h_n h_z
    rw [eX, x10, k10]
  have ev : ∀ i, i < h_n S k → h_hi X k i = (if i = e then hi else h_hi S k i) ∧ h_lo X k i = (if i = e then lo else h_lo S k i) := fun i hi' => by
    unfold h_hi h_lo
    rw [eX, ekd, c16]
    by_cases c : i = e
    · rw [if_pos c, if_pos c, c]
      exact ⟨x1, x2⟩
    · rw [if_neg c, if_neg c]
      have u : ∀ q, q = h_at (c_width kd) i ∨ q = h_at (c_width kd) i + 1 → sL X (h_row S k) q = sL S (h_row S k) q := fun q hq => by
        unfold h_at at hq
        refine xo q ?_ ?_ ?_
        · rcases hwid with cw | cw
          · rw [cw] at hq ⊢; omega
          · rw [cw] at hq ⊢; omega
        · unfold h_at
          rcases hwid with cw | cw
          · rw [cw] at hq ⊢; omega
          · rw [cw] at hq ⊢; omega
        · unfold h_at
          rcases hwid with cw | cw
          · rw [cw] at hq ⊢; omega
          · rw [cw] at hq ⊢; omega
      exact ⟨u _ (Or.inl rfl), u _ (Or.inr rfl)⟩
  have ekk : c_width (h_kd S k) = 4 → ∀ i, i < h_n S k → h_kh X k i = h_kh S k i ∧ h_kl X k i = h_kl S k i := fun hw4 i hi' => by
    rw [ekd] at hw4
    unfold h_kh h_kl
    rw [c16]
    rw [hw4] at xo
    unfold h_at at xo
    exact ⟨xo _ (by omega) (by omega) (by omega), xo _ (by omega) (by omega) (by omega)⟩
  have hst : ∀ i, sL W 47 i = sL S 47 i ∧ sL W 48 i = sL S 48 i := fun i => by
    rw [c5, c11 47 (by omega), c11 48 (by omega)]
    exact ⟨rfl, rfl⟩
  have h0l := CIk_lob h
  refine ⟨X, W, A1, hM, ?_, hst, hnX, eX, ev, ekk, obE_KX c4 (c8 k hk.1 hk.2.1) (fun c => by cases c)⟩
  have := CIk_mut (v := 0) h hM (by rw [Nat.sub_zero]; exact c1) c2 (fun c => ?_) (fun _ => ⟨fun i hi' => ?_, fun c2' i hi' => ?_⟩) (fun i _ => hst i) (by omega) (vP x) (vQ x)
  · rw [Nat.sub_zero] at this
    exact this
  · rw [x10, k10]
  · obtain ⟨y1, y2⟩ := (h.2.2.2.1 k hk).2
    rw [hnX] at hi'
    rw [(ev i hi').1, c12]
    split
    · exact ⟨h0.2, fun _ => h0.1⟩
    · exact y1 i hi'
  · obtain ⟨y1, y2⟩ := (h.2.2.2.1 k hk).2
    rw [hnX] at hi'
    rw [c12] at c2'
    have e2 : c_width (h_kd S k) = 4 := by
      unfold h_kd
      rw [c2']
      rfl
    rw [(ekk e2 i hi').1]
    exact y2 c2' i hi'
end
