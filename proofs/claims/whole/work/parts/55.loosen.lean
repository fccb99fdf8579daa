/-! VISIT of an object as it must be; LOOSEN: one hold less of each that one held; who is held no more waits -/
theorem tgs_some {S : cS} {k kd z x y a : Nat} (h7 : kd ≤ 7) (hkd : sA S 3 k = nI kd) (hsz : sA S 10 k = nI z) (hx : sA S 7 k = nI x) (hy : sA S 8 k = nI y) (hx1 : x ≤ 1500) (hy1 : y ≤ 1500) (hz : z ≤ 300) (hw : c_width kd = 0 → z = 0) : tgs S k = x :: y :: seqN (h_ent S k) 0 z := by
  unfold tgs h_n h_kd h_z
  rw [hx, hy, hkd, hsz, gN_nI (by omega), gN_nI (by omega), gN_nI (by omega), gN_nI (by omega)]
  by_cases h : c_width kd = 0
  · rw [if_pos h, hw h]
  · rw [if_neg h]
theorem h_ent_ob {S : cS} {k kd a e o : Nat} (h7 : kd ≤ 7) (hkd : sA S 3 k = nI kd) (hr : sQ S 11 k = some a) (ho : o ≤ 1500) (h : c_obj (sL S a (h_at (c_width kd) e)) (sL S a (h_at (c_width kd) e + 1)) = nI o) : h_ent S k e = o := by
  unfold h_ent h_hi h_lo h_row h_kd ob
  rw [hr, hkd, gN_nI (by omega)]
  show gN (c_obj (sL S a (h_at (c_width kd) e)) (sL S a (h_at (c_width kd) e + 1))) = o
  rw [h, gN_nI (by omega)]
theorem visit_ok {d k : Nat} {dd : Int32} {S : cS} {T : cS → Nat → cS} {P : List Nat → cS → Prop} (hT : ∀ {t : Nat} {l : List Nat} {S : cS}, P (t :: l) S → Ans (d + 1) 144 [.ref 2, .int (nI t), .int dd] S none (T S t)) (hP : ∀ {t : Nat} {l : List Nat} {S : cS}, P (t :: l) S → P l (T S t)) (hL : ∀ (S : cS) (t : Nat), sL (T S t) = sL S) (hS : ∀ (S : cS) (t : Nat), sS (T S t) = sS S) (h3 : ∀ (S : cS) (t : Nat), sA (T S t) 3 = sA S 3) (h8 : ∀ (S : cS) (t : Nat), sA (T S t) 8 = sA S 8) (h10 : ∀ (S : cS) (t : Nat), sA (T S t) 10 = sA S 10) (hQ : ∀ (S : cS) (t : Nat), sQ (T S t) = sQ S) (h0 : 1 ≤ k) (hk : k ≤ 1500) (ho : h_ok S k) (hp : P (tgs S k) S) : Ans (d + 2) 143 [.ref 2, .int (nI k), .int dd] S none ((tgs S k).foldl T S) := by
  obtain ⟨kd, z, x, y, h7, hkd, hsz, hx, hy, hx1, hy1, hz, hw0, hn0, hrow⟩ := ho
  have hz3 : z ≤ 300 := Nat.le_trans hz (c_most_le kd)
  rw [tgs_some (a := 0) h7 hkd hsz hx hy hx1 hy1 hz3 hw0] at hp ⊢
  cases hr : sQ S 11 k with
  | none =>
    obtain rfl := hn0 hr
    exact visit_null (N := 0) (a := 0) hT hP hL hS h3 h8 h10 hQ h0 hk hkd h7 rfl hx hy hr hp
  | some a =>
    obtain ⟨N, ha, hs, hzN, hN, hf⟩ := hrow a hr
    have hf2 : ∀ e, e < z → c_obj (sL S a (h_at (c_width kd) e)) (sL S a (h_at (c_width kd) e + 1)) = nI (h_ent S k e) := by
      intro e he
      obtain ⟨o, ho1, ho2⟩ := hf e he
      rw [h_ent_ob h7 hkd hr ho1 ho2]
      exact ho2
    rcases c_width_or kd with hw | hw | hw
    · obtain rfl := hw0 hw
      exact visit_w0 (w := 0) hT hP hL hS h3 h8 h10 hQ h0 hk hkd h7 hw hx hy hr ha hs hp
    · rw [hw] at hf2 hzN
      exact visit_2 hT hP hL hS h3 h8 h10 hQ h0 hk hkd h7 hw hsz hx hy hr ha hs (by omega) hz3 hzN (fun e he => by have := hf2 e he; rw [h_at2] at this; exact this) hp
    · rw [hw] at hf2 hzN
      exact visit_4 hT hP hL hS h3 h8 h10 hQ h0 hk hkd h7 hw hsz hx hy hr ha hs (by omega) hz3 hzN (fun e he => by have := hf2 e he; rw [h_at4] at this; exact this) hp
def lo_t (S : cS) (t : Nat) : cS := if t = 0 then S else if sA S 3 t ≠ 0 ∧ gN (sA S 4 t) + gN (sA S 5 t) + gN (sA S 6 t) = 1 then wI 216 (nI (gN (sI S 216) + 1)) (wA 14 (gN (sI S 216)) (nI t) (wA 4 t (sA S 4 t - nI 1) S)) else wA 4 t (sA S 4 t - nI 1) S
theorem lo_Fr (S : cS) (t : Nat) : Fr [216] [4, 14] S (lo_t S t) := by
  unfold lo_t
  split
  · exact Fr.refl _ _ _
  · split
    · exact Fr_wI (by decide) (Fr_wA (by decide) (Fr_wA (by decide) (Fr.refl _ _ _)))
    · exact Fr_wA (by decide) (Fr.refl _ _ _)
/-- a list that waits: in its array, with its length -/
def c_wait (S : cS) (ws : List Nat) : Prop := sI S 216 = nI ws.length ∧ ∀ i x, ws[i]? = some x → sA S 14 i = nI x
/-- on the way of loosening: S0 ahead of it, B and e: holds by others, by names, by work -/
def lo_P (S0 : cS) (g : Nat) (B e5 e6 : Nat → Nat) (l : List Nat) (S : cS) : Prop :=
  Fr [216] [4, 14] S0 S ∧ (∀ t, 1 ≤ t → t ≤ 1500 → sA S 4 t = nI (B t + l.count t) ∧ B t + l.count t < 2 ^ 21) ∧
  (∀ t, 1 ≤ t → t ≤ 1500 → sA S0 5 t = nI (e5 t) ∧ sA S0 6 t = nI (e6 t) ∧ e5 t < 2 ^ 21 ∧ e6 t < 2 ^ 21) ∧
  (∃ ws : List Nat, c_wait S ws ∧ ws.Nodup ∧ (∀ t, t ∈ ws → 1 ≤ t ∧ t ≤ 1500 ∧ sA S0 3 t ≠ 0 ∧ t ≠ g ∧ B t + l.count t + e5 t + e6 t = 0) ∧ (∀ t, 1 ≤ t → t ≤ 1500 → sA S0 3 t ≠ 0 → t ≠ g → t ∉ ws → 0 < B t + l.count t + e5 t + e6 t)) ∧
  (∀ t, t ∈ l → t = 0 ∨ 1 ≤ t ∧ t ≤ 1500 ∧ sA S0 3 t ≠ 0 ∧ t ≠ g)
theorem c_wait_push {S : cS} {ws : List Nat} {t : Nat} {v : Int32} (hw : c_wait S ws) (hl : ws.length < 2 ^ 30) : c_wait (wI 216 (nI (ws.length + 1)) (wA 14 ws.length (nI t) (wA 4 t v S))) (ws ++ [t]) := by
  refine ⟨?_, ?_⟩
  · rw [rIe, List.length_append]; rfl
  · intro i x hx
    rw [rIA, rAe]
    by_cases hi : i < ws.length
    · rw [List.getElem?_append_left hi] at hx
      rw [upd_at, if_neg (by omega), rAn _ _ _ (by decide)]
      exact hw.2 i x hx
    · rw [List.getElem?_append_right (by omega)] at hx
      by_cases h2 : i = ws.length
      · subst h2
        rw [Nat.sub_self] at hx
        obtain rfl : t = x := Option.some.inj hx
        rw [upd_at, if_pos rfl]
      · rw [List.getElem?_eq_none (by rw [List.length_singleton]; omega)] at hx
        cases hx
theorem c_wait_A {S : cS} {ws : List Nat} {a k : Nat} {v : Int32} (ha : a ≠ 14) (hw : c_wait S ws) : c_wait (wA a k v S) ws :=
  ⟨hw.1, fun i x hx => by rw [rAn _ _ _ (fun e => ha e.symm)]; exact hw.2 i x hx⟩
theorem lo_sum {S : cS} {k h m p : Nat} (h4 : sA S 4 k = nI (h + 1)) (h5 : sA S 5 k = nI m) (h6 : sA S 6 k = nI p) : sA (wA 4 k (sA S 4 k - nI 1) S) 4 k + sA (wA 4 k (sA S 4 k - nI 1) S) 5 k + sA (wA 4 k (sA S 4 k - nI 1) S) 6 k = nI (h + m + p) := by
  rw [rAe, rAn _ _ _ (by decide), rAn _ _ _ (by decide), upd_at, if_pos rfl, h4, h5, h6, pk_sub (by omega), nI_add, nI_add]
  rfl
theorem lo_step {d g t : Nat} {S0 S : cS} {B e5 e6 : Nat → Nat} {l : List Nat} (hp : lo_P S0 g B e5 e6 (t :: l) S) : Ans (d + 1) 144 [.ref 2, .int (nI t), .int (nI 0)] S none (lo_t S t) ∧ lo_P S0 g B e5 e6 l (lo_t S t) := by
  obtain ⟨hF, h4, h56, ⟨ws, hw, hnd, hws, hpos⟩, hl⟩ := hp
  rcases hl t List.mem_cons_self with rfl | ⟨ht1, ht2, ht3, htg⟩
  · have e : lo_t S 0 = S := if_pos rfl
    rw [e]
    refine ⟨touch_0, hF, ?_, h56, ⟨ws, hw, hnd, ?_, ?_⟩, fun u hu => hl u (List.mem_cons_of_mem _ hu)⟩
    · intro u hu1 hu2
      have := h4 u hu1 hu2
      rw [count_cons', if_neg (by omega)] at this
      exact this
    · intro u hu
      have := hws u hu
      rw [count_cons', if_neg (by omega)] at this
      exact this
    · intro u hu1 hu2 hu3 hu4 hu5
      have := hpos u hu1 hu2 hu3 hu4 hu5
      rw [count_cons', if_neg (by omega)] at this
      exact this
  · have hS3 : sA S 3 t ≠ 0 := by rw [hF.A (by decide)]; exact ht3
    obtain ⟨q4, q4b⟩ := h4 t ht1 ht2
    obtain ⟨q5, q6, q5b, q6b⟩ := h56 t ht1 ht2
    have q5' : sA S 5 t = nI (e5 t) := by rw [hF.A (by decide)]; exact q5
    have q6' : sA S 6 t = nI (e6 t) := by rw [hF.A (by decide)]; exact q6
    rw [count_cons', if_pos rfl, ← Nat.add_assoc] at q4 q4b
    have hsum := lo_sum q4 q5' q6'
    have htw : t ∉ ws := by
      intro h
      have := (hws t h).2.2.2.2
      rw [count_cons', if_pos rfl] at this
      omega
    have hlen : ws.length ≤ 1500 := nodup_len hnd (fun x hx => ⟨(hws x hx).1, (hws x hx).2.1⟩)
    have hsub : sA S 4 t - nI 1 = nI (B t + l.count t) := by rw [q4, pk_sub (by omega)]; rfl
    have h4' : ∀ S2 : cS, sA S2 4 = upd (sA S 4) t (sA S 4 t - nI 1) → ∀ u, 1 ≤ u → u ≤ 1500 → sA S2 4 u = nI (B u + l.count u) ∧ B u + l.count u < 2 ^ 21 := by
      intro S2 hS2 u hu1 hu2
      rw [hS2, upd_at]
      by_cases hu : u = t
      · subst hu
        rw [if_pos rfl, hsub]
        exact ⟨rfl, by omega⟩
      · have := h4 u hu1 hu2
        rw [if_neg hu]
        rw [count_cons', if_neg (fun h => hu h.symm)] at this
        exact this
    by_cases hc : B t + l.count t + e5 t + e6 t = 0
    · have e : lo_t S t = wI 216 (nI (ws.length + 1)) (wA 14 ws.length (nI t) (wA 4 t (sA S 4 t - nI 1) S)) := by
        unfold lo_t
        rw [if_neg (by omega), q4, q5', q6', gN_nI (by omega), gN_nI (by omega), gN_nI (by omega), if_pos ⟨hS3, by omega⟩, hw.1, gN_nI (by omega)]
      rw [e]
      refine ⟨touch0_go ht1 ht2 hw.1 hlen hS3 (by rw [hsum, hc]; decide), Fr_wI (by decide) (Fr_wA (by decide) (Fr_wA (by decide) hF)), h4' _ ?_, h56, ⟨ws ++ [t], c_wait_push hw (by omega), ?_, ?_, ?_⟩, fun u hu => hl u (List.mem_cons_of_mem _ hu)⟩
      · rw [rIA, rAn _ _ _ (by decide), rAe]
      · rw [List.nodup_append]
        exact ⟨hnd, nd_one t, fun a ha b hb e => htw (by rw [List.mem_singleton.mp hb] at e; exact e ▸ ha)⟩
      · intro u hu
        rcases List.mem_append.mp hu with hu | hu
        · have := hws u hu
          rw [count_cons', if_neg (show ¬ t = u from fun h => htw (h ▸ hu))] at this
          exact this
        · obtain rfl := List.mem_singleton.mp hu
          exact ⟨ht1, ht2, ht3, htg, hc⟩
      · intro u hu1 hu2 hu3 hu4 hu5
        have hu6 : u ∉ ws := fun h => hu5 (List.mem_append_left _ h)
        have hu7 : t ≠ u := fun h => hu5 (List.mem_append_right _ (List.mem_singleton.mpr h.symm))
        have := hpos u hu1 hu2 hu3 hu4 hu6
        rw [count_cons', if_neg hu7] at this
        exact this
    · have e : lo_t S t = wA 4 t (sA S 4 t - nI 1) S := by
        unfold lo_t
        rw [if_neg (by omega), q4, q5', q6', gN_nI (by omega), gN_nI (by omega), gN_nI (by omega), if_neg (fun h => hc (by omega))]
      rw [e]
      refine ⟨touch0_stay ht1 ht2 hS3 (by rw [hsum]; exact nI_lt (a := 0) (by omega) (by omega)), Fr_wA (by decide) hF, h4' _ (rAe _ _ _ _), h56, ⟨ws, c_wait_A (by decide) hw, hnd, ?_, ?_⟩, fun u hu => hl u (List.mem_cons_of_mem _ hu)⟩
      · intro u hu
        have := hws u hu
        rw [count_cons', if_neg (show ¬ t = u from fun h => htw (h ▸ hu))] at this
        exact this
      · intro u hu1 hu2 hu3 hu4 hu5
        by_cases hu : t = u
        · subst hu
          omega
        · have := hpos u hu1 hu2 hu3 hu4 hu5
          rw [count_cons', if_neg hu] at this
          exact this
theorem lo_fold {g : Nat} {B e5 e6 : Nat → Nat} {S0 : cS} : ∀ {l : List Nat} {S : cS}, lo_P S0 g B e5 e6 l S → lo_P S0 g B e5 e6 [] (l.foldl lo_t S) := by
  intro l
  induction l with
  | nil => intro S h; exact h
  | cons t l ih => intro S h; exact ih (lo_step (d := 0) h).2
theorem visit_lo {d k g : Nat} {B e5 e6 : Nat → Nat} {S0 S : cS} (h0 : 1 ≤ k) (hk : k ≤ 1500) (ho : h_ok S k) (hp : lo_P S0 g B e5 e6 (tgs S k) S) : ∃ S', Ans (d + 2) 143 [.ref 2, .int (nI k), .int (nI 0)] S none S' ∧ lo_P S0 g B e5 e6 [] S' :=
  ⟨_, visit_ok (T := lo_t) (P := lo_P S0 g B e5 e6) (fun h => (lo_step h).1) (fun h => (lo_step (d := 0) h).2) (fun S t => (lo_Fr S t).2.1) (fun S t => (lo_Fr S t).2.2.2.2.1) (fun S t => (lo_Fr S t).A (by decide)) (fun S t => (lo_Fr S t).A (by decide)) (fun S t => (lo_Fr S t).A (by decide)) (fun S t => (lo_Fr S t).2.2.2.1) h0 hk ho hp, lo_fold hp⟩
