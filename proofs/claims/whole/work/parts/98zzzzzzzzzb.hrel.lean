/-! BOTH HEAPS, SEEN AT TWO STATES -/
def HR (Q : Nat → Prop) (β : Nat → Nat) (F : Nat → Nat → Nat → Prop) (D : List Nat) (Sc Sr : cS) (g0 g1 nn : Nat) : Prop :=
  (∀ k, lv Sc k → obR β F Sc Sr g0 g1 nn k) ∧ (∀ j k, lv Sc j → lv Sc k → β j = β k → j = k) ∧ (∀ p, p < 1500 → sA Sr 87 p ≠ 0 → p ∈ D ∨ ∃ k, lv Sc k ∧ β k = p) ∧ D.Nodup ∧ (∀ x, x ∈ D → x < 1500 ∧ sA Sr 87 x ≠ 0 ∧ ∀ k, lv Sc k → β k ≠ x) ∧ D.Pairwise (fun x y => x + 1 ∉ rtgs Sr y) ∧ (∀ x, x ∈ D → x + 1 ∉ rtgs Sr x) ∧ (∀ p, p < 1500 → sA Sr 87 p ≠ 0 → r_ok Sr p ∧ (rtgs Sr p).length ≤ 1000) ∧ tWf Q Sr ∧ (Q g0 ∧ g0 ∉ [87, 89, 90] ∧ Q g1 ∧ g1 ∉ [87, 89, 90]) ∧ (∀ p, p < 1500 → sA Sr 87 p = 0 ∨ sA Sr 87 p = nI 1)
section
variable {Q : Nat → Prop} {β : Nat → Nat} {F : Nat → Nat → Nat → Prop} {D K : List Nat} {Sc Sr X W : cS} {g0 g1 nn k r t p : Nat}
theorem HR.ob (h : HR Q β F D Sc Sr g0 g1 nn) (hk : lv Sc k) : obR β F Sc Sr g0 g1 nn k := h.1 k hk
theorem HR.b (h : HR Q β F D Sc Sr g0 g1 nn) (hk : lv Sc k) : β k < 1500 := (h.1 k hk).1
theorem HR.wf (h : HR Q β F D Sc Sr g0 g1 nn) : tWf Q Sr := h.2.2.2.2.2.2.2.2.1
/-- an object's thing, with its arrays -/
theorem HR.th (h : HR Q β F D Sc Sr g0 g1 nn) (hk : lv Sc k) : ∃ t, sQ Sr 86 (β k) = some t ∧ tOk Sr (β k) t := by
  obtain ⟨b1, _, t, v2, v3, v4, v5, v6, v7, n, m, c1, _⟩ := h.1 k hk
  exact ⟨t, c1.1, h.wf.1 _ _ b1 c1.1⟩
theorem ob_le (hi lo : Int64) (h : ∃ o, o ≤ 1500 ∧ c_obj hi lo = nI o) : c_obj hi lo = nI (ob hi lo) ∧ ob hi lo ≤ 1500 := by
  obtain ⟨o, h1, h2⟩ := h
  rw [ob_n h2 h1]
  exact ⟨h2, h1⟩
theorem vr_ro {hi lo a b : Int64} {kd : Int32} (h : vrel β hi lo kd a b) (hb : ob hi lo ≠ 0 → β (ob hi lo) < 1500) : r_obj kd a ∧ r_o kd a = bm β (ob hi lo) := by
  obtain ⟨o, o1, o2, o3⟩ := vrel_ob h
  have e := ob_n o2 o1
  rw [e] at hb ⊢
  rcases o3 with ⟨z, hn⟩ | ⟨z, h3, ha⟩
  · subst z
    refine ⟨fun c => absurd c hn, ?_⟩
    unfold r_o bm
    rw [if_neg hn, if_pos rfl]
  · have hb' := hb (by omega)
    refine ⟨fun _ => ⟨β o, hb', by rw [ha, lN_i]⟩, ?_⟩
    rw [r_o_n h3 ha hb']
    unfold bm
    rw [if_neg (by omega)]
theorem lk_ro {x y : Int32} (h : lkR β x y) (hb : gN x ≠ 0 → β (gN x) < 1500) : r_lk y ∧ r_opt y = bm β (gN x) := by
  rcases h with ⟨h1, h2⟩ | ⟨k, k1, k2, h1, h2⟩
  · subst h1; subst h2
    exact ⟨Or.inl rfl, r_opt_n⟩
  · subst h1; subst h2
    rw [gN_nI (by omega)] at hb ⊢
    have hb' := hb (by omega)
    refine ⟨Or.inr ⟨_, hb', rfl⟩, ?_⟩
    rw [r_opt_y hb']
    unfold bm
    rw [if_neg (by omega)]
/-- what a thing of an object holds -/
theorem obR_ok (ho : obR β F X W g0 g1 nn k) (hcl : ∀ t, t ∈ tgs X k → t = 0 ∨ lv X t) (hb : ∀ q, lv X q → β q < 1500) (hz : h_n X k ≤ 300) : r_ok W (β k) ∧ (rtgs W (β k)).length ≤ 1000 ∧ rtgs W (β k) = seqN (fun i => bm β (h_ent X k i)) 0 (h_n X k) ++ [bm β (gN (sA X 7 k)), bm β (gN (sA X 8 k))] := by
  obtain ⟨b1, b2, t, v2, v3, v4, v5, v6, v7, n, m, c1, c2, c3, c4, c5, c6, c7, c8, c9⟩ := ho
  obtain ⟨h1, h2, ⟨N, h3⟩, h4, h5, h6, h7, h8, h9, k1, k2, k3, k4, k5, k6, hn, hm, g2, g3, g4, g5, g6, g7⟩ := c1
  have hbt : ∀ t, t ∈ tgs X k → t ≠ 0 → β t < 1500 := fun t ht h0 => hb t ((hcl t ht).resolve_left h0)
  have hv : ∀ i, i < h_n X k → r_obj (sA W v2 i) (sL W v4 i) ∧ r_o (sA W v2 i) (sL W v4 i) = bm β (h_ent X k i) := fun i hi => vr_ro (c5 i hi) (fun h0 => hbt _ (List.mem_cons_of_mem _ (List.mem_cons_of_mem _ (seqN_in (f := h_ent X k) (Nat.zero_le i) (by omega)))) h0)
  have l1 := lk_ro c7 (fun h0 => hbt _ List.mem_cons_self h0)
  have l2 := lk_ro c8 (fun h0 => hbt _ (List.mem_cons_of_mem _ List.mem_cons_self) h0)
  have e : rtgs W (β k) = seqN (fun i => bm β (h_ent X k i)) 0 (h_n X k) ++ [bm β (gN (sA X 7 k)), bm β (gN (sA X 8 k))] := by
    rw [rtgs_e h1 c3 (by omega) h4 h6, l1.2, l2.2]
    congr 1
    exact seqN_congr (fun j _ hj => (hv j (by omega)).2)
  refine ⟨⟨t, N, h_n X k, v2, v4, n, h1, h2, h3, c3, h4, h6, k1, k3, c4, hn, ⟨g2, g4⟩, fun i hi => (hv i hi).1, l1.1, l2.1⟩, ?_, e⟩
  rw [e, List.length_append, seqN_len]
  show h_n X k + 2 ≤ 1000
  omega
theorem h_n_le (h : h_ok X k) : h_n X k ≤ 300 := by
  obtain ⟨kd, z, x, y, a1, a2, a3, a4, a5, a6, a7, a8, _⟩ := h
  have h8 : z ≤ 300 := by
    have : c_most kd ≤ 300 := by unfold c_most; split <;> (try split) <;> omega
    omega
  unfold h_n
  split
  · omega
  · unfold h_z
    rw [a3, gN_nI (by omega)]
    exact h8
/-- a thing as it was holds what it held -/
theorem r_ok_E (h : r_ok Sr p) (e : thE Sr W p) : r_ok W p ∧ rtgs W p = rtgs Sr p := by
  obtain ⟨t, N, z, v2, v4, n, h1, h2, h3, h4, h5, h6, h7, h8, h9, h10, h11, h12, h13, h14⟩ := h
  obtain ⟨e1, e2, ⟨l, el⟩, e4⟩ := e
  obtain ⟨f1, f2⟩ := e4 t h1
  have x2 := (f2 2 v2 (by omega) (by omega) h5).1
  have x4 := (f2 4 v4 (by omega) (by omega) h6).2
  have i1 := (f1 1 (by omega)).1
  have i11 := (f1 11 (by omega)).1
  have i12 := (f1 12 (by omega)).1
  have w2 : sV W (100 * t + 2) = .ref v2 := by rw [(f1 2 (by omega)).2]; exact h5
  have w4 : sV W (100 * t + 4) = .ref v4 := by rw [(f1 4 (by omega)).2]; exact h6
  refine ⟨⟨t, N, z, v2, v4, n, by rw [e2]; exact h1, h2, sS_old el h3, by rw [i1]; exact h4, w2, w4, isK_ext h7 ⟨l, el⟩, isK_ext h8 ⟨l, el⟩, h9, h10, h11, fun i hi => by rw [x2, x4]; exact h12 i hi, by rw [i11]; exact h13, by rw [i12]; exact h14⟩, ?_⟩
  rw [rtgs_e h1 h4 (by omega) h5 h6, rtgs_e (S := W) (by rw [e2]; exact h1) (by rw [i1]; exact h4) (by omega) w2 w4, i11, i12, x2, x4]
theorem tF_N (hQ : tWf Q Sr) (h : tF r t Sr W) (hr : r < 1500) (ht : sQ Sr 86 r = some t) (hg : Q g0 ∧ g0 ∉ [87, 89, 90] ∧ Q g1 ∧ g1 ∉ [87, 89, 90]) : tnE Sr W g0 g1 :=
  ⟨(tF_Q hQ h hr ht hg.1 (fun c => hg.2.1 (by rw [c]; decide))).1, (tF_Q hQ h hr ht hg.2.2.1 (fun c => hg.2.2.2 (by rw [c]; decide))).1, (tF_Q hQ h hr ht (hQ.2.2.2.2.1 17 (by omega)) (by omega)).2, (tF_Q hQ h hr ht (hQ.2.2.2.2.1 18 (by omega)) (by omega)).2⟩
/-- an object and its thing have changed -/
theorem HR_upd (h : HR Q β F D Sc Sr g0 g1 nn) (hk : lv Sc k) (ht : sQ Sr 86 (β k) = some t) (hT : tF (β k) t Sr W) (hw : tOk W (β k) t) (h87 : sA W 87 (β k) = nI 1) (hl : ∀ q, lv X q ↔ lv Sc q) (hE : ∀ j, 1 ≤ j → j ≤ 1500 → j ≠ k → obE Sc X j) (hcl : h_cl X) (hok : h_ok X k) (ho : obR β F X W g0 g1 nn k) : HR Q β F D X W g0 g1 nn := by
  obtain ⟨a1, a2, a3, a4, a5, a6, a7, a8, a9, a10, a11⟩ := h
  have hr : β k < 1500 := (a1 k hk).1
  have ho' := fun p hp hpr => tF_o (p := p) a9 hT hr ht hp hpr
  have hx : ∀ p, p < 1500 → p ≠ β k → sA Sr 87 p ≠ 0 → r_ok W p ∧ rtgs W p = rtgs Sr p := fun p hp hpr h => r_ok_E (a8 p hp h).1 (ho' p hp hpr).1
  have hne : ∀ j, lv Sc j → j ≠ k → β j ≠ β k := fun j hj hjk c => hjk (a2 j k hj hk c)
  have hclk : ∀ q, lv X q → ∀ t, t ∈ tgs X q → t = 0 ∨ lv X t := fun q hq => hcl q hq.1 hq.2.1 hq.2.2
  have hb : ∀ q, lv X q → β q < 1500 := fun q hq => (a1 q ((hl q).mp hq)).1
  have hok' := obR_ok ho (hclk k ((hl k).mpr hk)) hb (h_n_le hok)
  refine ⟨fun j hj => ?_, fun j q hj hq e => a2 j q ((hl j).mp hj) ((hl q).mp hq) e, fun p hp hp0 => ?_, a4, fun x hx' => ?_, List.Pairwise.imp_of_mem (fun {a b} ha hb' hab => ?_) a6, fun x hx' => ?_, fun p hp hp0 => ?_, tF_Wf a9 hT hr ht hw, a10, fun p hp => ?_⟩
  · by_cases c : j = k
    · rw [c]; exact ho
    · have hj' := (hl j).mp hj
      exact obR_r (obR_c (a1 j hj') (hE j hj.1 hj.2.1 c)) (ho' _ (a1 j hj').1 (hne j hj' c)).1 (tF_N a9 hT hr ht a10)
  · by_cases c : p = β k
    · exact Or.inr ⟨k, (hl k).mpr hk, c.symm⟩
    · rw [(ho' p hp c).1.1] at hp0
      exact (a3 p hp hp0).imp id (fun ⟨q, q1, q2⟩ => ⟨q, (hl q).mpr q1, q2⟩)
  · obtain ⟨x1, x2, x3⟩ := a5 x hx'
    have c : x ≠ β k := fun c => x3 k hk c.symm
    exact ⟨x1, by rw [(ho' x x1 c).1.1]; exact x2, fun q hq => x3 q ((hl q).mp hq)⟩
  · obtain ⟨x1, x2, x3⟩ := a5 b hb'
    rw [(hx b x1 (fun c => x3 k hk c.symm) x2).2]
    exact hab
  · obtain ⟨x1, x2, x3⟩ := a5 x hx'
    rw [(hx x x1 (fun c => x3 k hk c.symm) x2).2]
    exact a7 x hx'
  · by_cases c : p = β k
    · rw [c]; exact ⟨hok'.1, hok'.2.1⟩
    · rw [(ho' p hp c).1.1] at hp0
      obtain ⟨y1, y2⟩ := hx p hp c hp0
      exact ⟨y1, by rw [y2]; exact (a8 p hp hp0).2⟩
  · by_cases c : p = β k
    · rw [c]; exact Or.inr h87
    · rw [(ho' p hp c).1.1]; exact a11 p hp
/-- the class's part has changed, no object of it has -/
theorem HR_c (h : HR Q β F D Sc Sr g0 g1 nn) (hl : ∀ q, lv X q ↔ lv Sc q) (hE : ∀ j, lv Sc j → obE Sc X j) : HR Q β F D X Sr g0 g1 nn := by
  obtain ⟨a1, a2, a3, a4, a5, a6, a7, a8, a9, a10, a11⟩ := h
  exact ⟨fun j hj => obR_c (a1 j ((hl j).mp hj)) (hE j ((hl j).mp hj)), fun j q hj hq e => a2 j q ((hl j).mp hj) ((hl q).mp hq) e, fun p hp hp0 => (a3 p hp hp0).imp id (fun ⟨q, q1, q2⟩ => ⟨q, (hl q).mpr q1, q2⟩), a4, fun x hx => ⟨(a5 x hx).1, (a5 x hx).2.1, fun q hq => (a5 x hx).2.2 q ((hl q).mp hq)⟩, a6, a7, a8, a9, a10, a11⟩
/-- what a thing holds: what its object holds -/
theorem HR_tg (h : HR Q β F D X Sr g0 g1 nn) (hcl : h_cl X) (hok : h_ok X k) (hk : lv X k) (o : Nat) : o ∈ rtgs Sr (β k) ↔ ∃ t, t ∈ tgs X k ∧ o = bm β t := by
  rw [(obR_ok (h.1 k hk) (hcl k hk.1 hk.2.1 hk.2.2) (fun q hq => (h.1 q hq).1) (h_n_le hok)).2.2]
  constructor
  · intro ho
    rcases List.mem_append.mp ho with c | c
    · obtain ⟨j, _, j2, e⟩ := seqN_mem c
      exact ⟨_, List.mem_cons_of_mem _ (List.mem_cons_of_mem _ (seqN_in (f := h_ent X k) (Nat.zero_le j) j2)), e⟩
    · rcases List.mem_cons.mp c with c | c
      · exact ⟨_, List.mem_cons_self, c⟩
      · exact ⟨_, List.mem_cons_of_mem _ List.mem_cons_self, List.mem_singleton.mp c⟩
  · rintro ⟨t, ht, e⟩
    rw [e]
    rcases List.mem_cons.mp ht with c | c
    · rw [c]; exact List.mem_append_right _ List.mem_cons_self
    · rcases List.mem_cons.mp c with c | c
      · rw [c]; exact List.mem_append_right _ (List.mem_cons_of_mem _ List.mem_cons_self)
      · obtain ⟨j, _, j2, e'⟩ := seqN_mem c
        rw [e']
        exact List.mem_append_left _ (seqN_in (f := fun i => bm β (h_ent X k i)) (Nat.zero_le j) j2)
/-- some objects of the class go: their things are dead, not yet gone -/
theorem HR_kill (h : HR Q β F D X Sr g0 g1 nn) (hcl : h_cl X) (hok : ∀ j, 1 ≤ j → j ≤ 1500 → h_ok X j) (hK : KX K X W) : HR Q β F (D ++ K.map β) W Sr g0 g1 nn := by
  have hl := lv_KX hK
  have hE : ∀ j, lv W j → obE X W j := fun j hj => obE_KX hK (hok j hj.1 hj.2.1) ((hl j).mp hj).2
  have hb : ∀ q, lv X q → β q < 1500 := fun q hq => (h.1 q hq).1
  have hin : ∀ q, lv X q → ∀ o, o ∈ rtgs Sr (β q) → ∃ t, t ∈ tgs X q ∧ o = bm β t := fun q hq o ho => (HR_tg h hcl (hok q hq.1 hq.2.1) hq o).mp ho
  obtain ⟨a1, a2, a3, a4, a5, a6, a7, a8, a9, a10, a11⟩ := h
  obtain ⟨hF, k3, k10, kn, kl, kp, kx⟩ := hK
  have hKl : ∀ q, q ∈ K → lv X q := fun q hq => kl q hq
  have hbt : ∀ q t, lv X q → t ∈ tgs X q → t ≠ 0 → lv X t := fun q t hq htm h0 => (hcl q hq.1 hq.2.1 hq.2.2 t htm).resolve_left h0
  have hKe : ∀ x, x ∈ K.map β ↔ ∃ q, q ∈ K ∧ β q = x := fun x => List.mem_map
  have hbne : ∀ q x, lv X x → lv X q → β x + 1 ∈ rtgs Sr (β q) → x ∈ tgs X q := fun q x hx hq hm => by
    obtain ⟨t, htm, e⟩ := hin q hq _ hm
    unfold bm at e
    by_cases h0 : t = 0
    · rw [if_pos h0] at e; omega
    · rw [if_neg h0] at e
      rw [a2 x t hx (hbt q t hq htm h0) (by omega)]
      exact htm
  refine ⟨fun j hj => obR_c (a1 j ((hl j).mp hj).1) (hE j hj), fun j q hj hq e => a2 j q ((hl j).mp hj).1 ((hl q).mp hq).1 e, fun p hp hp0 => ?_, ?_, fun x hx => ?_, ?_, fun x hx => ?_, a8, a9, a10, a11⟩
  · rcases a3 p hp hp0 with c | ⟨q, hq, e⟩
    · exact Or.inl (List.mem_append_left _ c)
    · by_cases hqK : q ∈ K
      · exact Or.inl (List.mem_append_right _ ((hKe p).mpr ⟨q, hqK, e⟩))
      · exact Or.inr ⟨q, (hl q).mpr ⟨hq, hqK⟩, e⟩
  · rw [List.nodup_append]
    refine ⟨a4, ?_, fun a ha b hb' e => ?_⟩
    · rw [List.nodup_iff_pairwise_ne, List.pairwise_map]
      refine List.Pairwise.imp_of_mem (fun {a b} ha hb' hab e => ?_) (List.nodup_iff_pairwise_ne.mp kn)
      exact hab (a2 a b (hKl a ha) (hKl b hb') e)
    · obtain ⟨q, hq, e2⟩ := (hKe b).mp hb'
      exact (a5 a ha).2.2 q (hKl q hq) (by rw [e2, e])
  · rcases List.mem_append.mp hx with hx | hx
    · obtain ⟨b1, b2, b3⟩ := a5 x hx
      exact ⟨b1, b2, fun q hq => b3 q ((hl q).mp hq).1⟩
    · obtain ⟨q, hq, e⟩ := (hKe x).mp hx
      subst e
      exact ⟨hb q (hKl q hq), (a1 q (hKl q hq)).2.1, fun j hj e => ((hl j).mp hj).2 (a2 j q ((hl j).mp hj).1 (hKl q hq) e ▸ hq)⟩
  · rw [List.pairwise_append]
    refine ⟨a6, ?_, fun a ha b hb' hm => ?_⟩
    · rw [List.pairwise_map]
      exact List.Pairwise.imp_of_mem (fun {a b} ha hb' hab hm => hab (hbne b a (hKl a ha) (hKl b hb') hm)) kp
    · obtain ⟨q, hq, e⟩ := (hKe b).mp hb'
      subst e
      obtain ⟨t, htm, e⟩ := hin q (hKl q hq) _ hm
      unfold bm at e
      by_cases h0 : t = 0
      · rw [if_pos h0] at e; omega
      · rw [if_neg h0] at e
        exact (a5 a ha).2.2 t (hbt q t (hKl q hq) htm h0) (by omega)
  · rcases List.mem_append.mp hx with hx | hx
    · exact a7 x hx
    · obtain ⟨q, hq, e⟩ := (hKe x).mp hx
      subst e
      exact fun hm => kx q hq (hbne q q (hKl q hq) (hKl q hq) hm)
end
