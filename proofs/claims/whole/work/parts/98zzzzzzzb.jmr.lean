/-! JUMPS LAND ON STEPS (pure): the rows of statements -/
section
variable {K : Nat → Nat} {T : Int → Int → Prop} {a b l3 ex : List Op} {c r p q : Int} {o : Op} {lp : LpT} {ca ra tr lk j s : Nat}
theorem rsv_tk {ce re : Nat} : ∀ (os : List Op) (c r t : Nat), (rsv K ce re c r os).take t = rsv K ce re c r (os.take t) := by
  intro os
  induction os with
  | nil => intro c r t; cases t <;> rfl
  | cons o l ih =>
    intro c r t
    cases t with
    | zero => rfl
    | succ t =>
      show (_ :: (rsv K ce re (c + lC o) (r + lR K o) l).take t) = _ :: _
      rw [ih]
theorem rsv_len {ce re : Nat} : ∀ (os : List Op) (c r : Nat), (rsv K ce re c r os).length = os.length := by
  intro os
  induction os with
  | nil => intro c r; rfl
  | cons o l ih =>
    intro c r
    show (rsv K ce re (c + lC o) (r + lR K o) l).length + 1 = l.length + 1
    rw [ih]
theorem rsv_bnd {ce re c0 r0 : Nat} (h : bnd K b c r p q) : bnd K (rsv K ce re c0 r0 b) c r p q := by
  obtain ⟨t, t1, t2, t3⟩ := h
  exact ⟨t, by rw [rsv_len]; exact t1, by rw [rsv_tk, (rsv_w _ _ _).1]; exact t2, by rw [rsv_tk, (rsv_w _ _ _).2.1]; exact t3⟩
theorem w1 (o : Op) : wC [o] = lC o ∧ wR K [o] = lR K o := ⟨Nat.add_zero _, Nat.add_zero _⟩
/-- one row behind another, both where they stand -/
theorem jO_app (h1 : jO K lp ca ra a) (h2 : jO K lp (ca + wC a) (ra + wR K a) b) : jO K lp ca ra (a ++ b) :=
  jA_app (jA_T h1 (fun p q g => g.elim (fun g => Or.inl (bnd_l g)) Or.inr)) (jO_in h2 (by omega) (by omega) (fun p q g => Or.inl (bnd_r g)) (fun p q g => Or.inr g))
theorem jO_n (h : ¬ isJ o.1) : jO K lp ca ra [o] := jA_n h
theorem jO_nil : jO K lp ca ra [] := jA_nil
theorem jO_c (h : ¬ isJ o.1) (h2 : jO K lp (ca + lC o) (ra + lR K o) b) : jO K lp ca ra (o :: b) := by
  show jO K lp ca ra ([o] ++ b)
  refine jO_app (jO_n h) ?_
  rw [(w1 (K := K) o).1, (w1 o).2]
  exact h2
theorem jO_no (h : ∀ o, o ∈ a → ¬ isJ o.1) : jO K lp ca ra a := fun i o hi hj => absurd hj (h o (List.mem_of_getElem? hi))
/-- while -/
theorem wh_J (h3 : jG K jF l3) (hb : jO K (some (ca + 2, ra + 2, tr)) (ca + 4 + wC l3 + 2) (ra + 4 + wR K l3 + 2) b) : jO K lp ca ra ((4, [], 4, 3) :: (2, [lk], 0, 0) :: (l3 ++ (5, [], ((4 + wC b : Nat) : Int), ((3 + wR K b : Nat) : Int)) :: (rsv K (ca + 4 + wC l3 + 2 + wC b + 2) (ra + 4 + wR K l3 + 2 + wR K b + 2) (ca + 4 + wC l3 + 2) (ra + 4 + wR K l3 + 2) b ++ [(4, [], ((ca + 2 : Nat) : Int) - (ca + 4 + wC l3 + 2 + wC b : Nat), ((ra + 2 : Nat) : Int) - ((ra + 4 + wR K l3 + 2 + wR K b : Nat) + 1))]))) := by
  have key : ∀ (o1 o2 o5 o4 : Op) (B W : List Op), o1 = (4, [], 4, 3) → o2 = (2, [lk], 0, 0) → o5 = (5, [], ((4 + wC b : Nat) : Int), ((3 + wR K b : Nat) : Int)) → B = rsv K (ca + 4 + wC l3 + 2 + wC b + 2) (ra + 4 + wR K l3 + 2 + wR K b + 2) (ca + 4 + wC l3 + 2) (ra + 4 + wR K l3 + 2) b → o4 = (4, [], ((ca + 2 : Nat) : Int) - (ca + 4 + wC l3 + 2 + wC b : Nat), ((ra + 2 : Nat) : Int) - ((ra + 4 + wR K l3 + 2 + wR K b : Nat) + 1)) → W = [o1] ++ ([o2] ++ (l3 ++ ([o5] ++ (B ++ [o4])))) → jO K lp ca ra W := by
    intro o1 o2 o5 o4 B W e1 e2 e5 eB e4 eW
    have c1 : wC [o1] = 2 ∧ wR K [o1] = 2 := by rw [e1]; exact ⟨rfl, rfl⟩
    have c2 : wC [o2] = 2 ∧ wR K [o2] = 2 := by rw [e2]; exact ⟨rfl, rfl⟩
    have c5 : wC [o5] = 2 ∧ wR K [o5] = 2 := by rw [e5]; exact ⟨rfl, rfl⟩
    have c4 : wC [o4] = 2 ∧ wR K [o4] = 2 := by rw [e4]; exact ⟨rfl, rfl⟩
    have cB : wC B = wC b ∧ wR K B = wR K b := by rw [eB]; exact ⟨(rsv_w _ _ _).1, (rsv_w _ _ _).2.1⟩
    have t2 : bnd K W ca ra (ca + (wC [o1] : Nat)) (ra + (wR K [o1] : Nat)) := by rw [eW]; exact bnd_r bnd_0
    have t4 : bnd K W ca ra (ca + (wC [o1] : Nat) + (wC [o2] : Nat)) (ra + (wR K [o1] : Nat) + (wR K [o2] : Nat)) := by rw [eW]; exact bnd_r (bnd_r bnd_0)
    have te : bnd K W ca ra (ca + (wC [o1] : Nat) + (wC [o2] : Nat) + (wC l3 : Nat) + (wC [o5] : Nat) + (wC B : Nat) + (wC [o4] : Nat)) (ra + (wR K [o1] : Nat) + (wR K [o2] : Nat) + (wR K l3 : Nat) + (wR K [o5] : Nat) + (wR K B : Nat) + (wR K [o4] : Nat)) := by rw [eW]; exact bnd_r (bnd_r (bnd_r (bnd_r (bnd_r bnd_e))))
    have inr3 : ∀ p q, bnd K l3 ((ca : Int) + (wC [o1] : Nat) + (wC [o2] : Nat)) ((ra : Int) + (wR K [o1] : Nat) + (wR K [o2] : Nat)) p q → bnd K W ca ra p q := fun p q g => by rw [eW]; exact bnd_r (bnd_r (bnd_l g))
    have inrB : ∀ p q, bnd K B ((ca : Int) + (wC [o1] : Nat) + (wC [o2] : Nat) + (wC l3 : Nat) + (wC [o5] : Nat)) ((ra : Int) + (wR K [o1] : Nat) + (wR K [o2] : Nat) + (wR K l3 : Nat) + (wR K [o5] : Nat)) p q → bnd K W ca ra p q := fun p q g => by rw [eW]; exact bnd_r (bnd_r (bnd_r (bnd_r (bnd_l g))))
    have hW : jA K (fun p q => bnd K W ca ra p q ∨ lpP lp p q) ca ra ([o1] ++ ([o2] ++ (l3 ++ ([o5] ++ (B ++ [o4]))))) := by
      refine jA_app (jA_1 (Or.inl (bnd_pq t4 ?_ ?_))) (jA_app (jA_n (by rw [e2]; unfold isJ; dsimp only; omega)) (jA_app (jF_in h3 (fun p q g => Or.inl (inr3 p q g))) (jA_app (jA_1 (Or.inl (bnd_pq te ?_ ?_))) (jA_app ?_ (jA_1 (Or.inl (bnd_pq t2 ?_ ?_)))))))
      · have : o1.2.2.1 = 4 := by rw [e1]
        omega
      · have : o1.2.2.2 = 3 := by rw [e1]
        omega
      · have : o5.2.2.1 = ((4 + wC b : Nat) : Int) := by rw [e5]
        omega
      · have : o5.2.2.2 = ((3 + wR K b : Nat) : Int) := by rw [e5]
        omega
      · rw [eB]
        refine jA_at (rsv_jA b _ _ (jO_in hb rfl rfl (fun p q g => Or.inl (inrB p q ?_)) (fun p q g => ?_)) (Or.inl (bnd_pq te ?_ ?_))) ?_ ?_
        · rw [eB]
          exact rsv_bnd (bnd_at g (by omega) (by omega))
        · obtain ⟨g1, g2⟩ := g
          have g1' : p = ((ca + 2 : Nat) : Int) := g1
          have g2' : q = ((ra + 2 : Nat) : Int) := g2
          exact Or.inl (bnd_pq t2 (by omega) (by omega))
        · omega
        · omega
        · omega
        · omega
      · have : o4.2.2.1 = ((ca + 2 : Nat) : Int) - (ca + 4 + wC l3 + 2 + wC b : Nat) := by rw [e4]
        omega
      · have : o4.2.2.2 = ((ra + 2 : Nat) : Int) - ((ra + 4 + wR K l3 + 2 + wR K b : Nat) + 1) := by rw [e4]
        omega
    rw [← eW] at hW
    exact hW
  exact key _ _ _ _ _ _ rfl rfl rfl rfl rfl rfl
end
