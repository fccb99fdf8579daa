/-! FLOW ON BOTH SIDES: the int of a loop counts on: the class's stack -/
section
variable {F : Nat → Nat → Nat → Prop} {loc par : Nat → Nat → Nat} {ty : Nat → Nat × Nat} {G : Nat → Nat → Nat → Nat × Nat × LL → Prop} {t p y i : Nat} {tq : Nat → Nat × Nat} {C r : List Lv} {x : Lv} {S S' : cS} {u : Int64} {g : Nat → Nat} {xx : Nat}
theorem slo_o (hp : sL S 47 p = 2305843009213693952) (i : Nat) : c_obj (sL (wL 48 p u S) 47 i) (sL (wL 48 p u S) 48 i) = c_obj (sL S 47 i) (sL S 48 i) := by
  have eL : ∀ a, a ≠ 48 → sL (wL 48 p u S) a = sL S a := fun a ha => if_neg ha
  have e7 := eL 47 (by decide)
  have e8 : sL (wL 48 p u S) 48 i = if i = p then u else sL S 48 i := by
    show (if (48 : Nat) = 48 then va_up (sL S 48) p u else sL S 48) i = _
    rw [if_pos rfl]
    rfl
  rw [e7, e8]
  by_cases c : i = p
  · rw [if_pos c, c, hp, (int_o u).1, (int_o _).1]
  · rw [if_neg c]
theorem mHS_lo (h : mHS xx g t S) (hp : sL S 47 p = 2305843009213693952) : mHS xx g t (wL 48 p u S) := by
  obtain ⟨a1, a2, a3, a4, a5, a6, a7, a8, a9⟩ := h
  have hF : FrL [] [] [48] S (wL 48 p u S) := ⟨rfl, fun a ha => if_neg (fun c => ha (List.mem_singleton.mpr c)), rfl, rfl, rfl, rfl, fun _ _ => rfl, fun _ _ => rfl⟩
  obtain ⟨n1, n2⟩ := nmE_F hF (by decide)
  obtain ⟨p1, p2⟩ := Hp_anyL a1 hF (fun i hi => by cases hi) (fun a ha => by cases ha) (fun a ha => by rw [List.mem_singleton] at ha; omega)
  have es : stE t (wL 48 p u S) = stE t S := by
    funext k
    exact sumN_congr (fun i _ => by
      have : ob (sL (wL 48 p u S) 47 i) (sL (wL 48 p u S) 48 i) = ob (sL S 47 i) (sL S 48 i) := by
        unfold ob
        rw [slo_o hp]
      rw [this])
  refine ⟨?_, fun k hk hx => ?_, a3, a4, fun i hi => ?_, ?_, a7, ?_, a9⟩
  · rw [n1, es]
    exact p1
  · rw [n1, es, p2 k]
    exact a2 k hk hx
  · rw [slo_o hp]
    exact a5 i hi
  · exact a6
  · rw [n2]
    exact a8
/-- the class with the int of its innermost loop counted on -/
theorem CI_lo (h : CI F loc par ty G tq (x :: r) S) (hy : vB x ≤ p) (hp : sL S 47 p = 2305843009213693952) (hi : i ≤ 300) : CI F loc par ty G tq (x :: r) (wL 48 p (lN i) S) := by
  have hF : FrL [] [] [48] S (wL 48 p (lN i) S) := ⟨rfl, fun a ha => if_neg (fun c => ha (List.mem_singleton.mpr c)), rfl, rfl, rfl, rfl, fun _ _ => rfl, fun _ _ => rfl⟩
  have eL : ∀ a, a ≠ 48 → sL (wL 48 p (lN i) S) a = sL S a := fun a ha => if_neg ha
  have e8 : ∀ j, sL (wL 48 p (lN i) S) 48 j = if j = p then lN i else sL S 48 j := fun j => by
    show (if (48 : Nat) = 48 then va_up (sL S 48) p (lN i) else sL S 48) j = _
    rw [if_pos rfl]
    rfl
  obtain ⟨a1, a2, a3, a4, a5, a6, a7, a8, a9⟩ := h
  have hm := mHS_lo (u := lN i) a1 hp
  obtain ⟨m1, m2, m3⟩ := a3
  have hE : ∀ k, lv S k → obE S (wL 48 p (lN i) S) k := fun k hk => by
    obtain ⟨r1, r2⟩ := FrL_row hF (fun a ha => by rw [List.mem_singleton] at ha; omega) (mHS_ok a1 k hk.1 hk.2.1)
    exact obE_of rfl rfl rfl rfl rfl r1 r2
  refine ⟨hm, fun k a hk hq => a2 k a hk hq, ⟨⟨fun j hj => ?_, fun z hz => ?_⟩, m2, ?_⟩, fun k hk => ?_, cCal_E a5 (fun _ _ => rfl), ?_, a7, triC_E a8 rfl, fun q hq => by rw [eL 21 (by decide)]; exact a9 q hq⟩
  · rw [eL 47 (by decide)]
    exact m1.1 j hj
  · obtain ⟨⟨o, o1, o2, o3, o4⟩, ⟨i2, i3, i4, i5⟩⟩ := m1.2 z hz
    refine ⟨⟨o, o1, o2, by rw [eL 47 (by decide)]; exact o3, ?_⟩, ?_⟩
    · rw [e8, if_neg (fun c => by rw [c, hp] at o3; exact absurd o3 (by decide))]
      exact o4
    · by_cases c : vB x + (z + 1) = p
      · exact ⟨i, hi, by rw [eL 47 (by decide)]; exact i4, by rw [e8, if_pos c]⟩
      · exact ⟨i2, i3, by rw [eL 47 (by decide)]; exact i4, by rw [e8, if_neg c]; exact i5⟩
  · refine stkC_K (n := vB x) m3 (fun y hy => ?_) (fun j hj => by rw [eL 47 (by decide), e8, if_neg (by omega)]; exact ⟨rfl, rfl⟩) (fun j hj => hm.2.2.2.2.1 j (by have : topC (x :: r) = vB x + vH x := rfl; omega)) (fun _ _ => rfl)
    have := cCal_lo a5 y hy
    omega
  · obtain ⟨b1, b2⟩ := a4 k hk
    exact ⟨tyO_K b1 (hE k hk) (fun o ho => ⟨fun _ => ho, fun _ => rfl⟩), vlO_K b2 (hE k hk)⟩
  · exact lvOk_K a6 (fun y hy => by
      obtain ⟨c1, c2⟩ := gC_pos hy
      exact ⟨fun c => hm.2.2.2.2.2.2.1 _ (c1 c), fun c => hm.2.2.2.2.2.2.1 _ (c2 c)⟩) (fun o _ => rfl)
end
