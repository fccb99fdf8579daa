/-! JUMPS LAND ON STEPS (pure): for, try, if, def -/
section
variable {K : Nat → Nat} {T : Int → Int → Prop} {a b d l3 ex : List Op} {c r p q : Int} {o : Op} {lp : LpT} {ca ra tr lk j s : Nat}
theorem for_J {oS : Op} (hS : oS.1 = 19) (h3 : jG K jF l3) (hb : jO K (some (ca + wC l3 + 3, ra + wR K l3 + 3, tr)) (ca + wC l3 + 10) (ra + wR K l3 + 11) b) : jO K lp ca ra (l3 ++ (9, [], 0, 0) :: (4, [], 4, 3) :: (2, [lk], 0, 0) :: (10, [], ((7 + wC b : Nat) : Int), ((7 + wR K b : Nat) : Int)) :: oS :: (rsv K (ca + wC l3 + 10 + wC b + 2) (ra + wR K l3 + 11 + wR K b + 2) (ca + wC l3 + 10) (ra + wR K l3 + 11) b ++ [(4, [], ((ca + wC l3 + 3 : Nat) : Int) - (ca + wC l3 + 10 + wC b : Nat), ((ra + wR K l3 + 3 : Nat) : Int) - ((ra + wR K l3 + 11 + wR K b : Nat) + 1)), (11, [], 0, 0)])) := by
  have key : ∀ (o9 o4 o2 oX oB oE : Op) (B W : List Op), o9 = (9, [], 0, 0) → o4 = (4, [], 4, 3) → o2 = (2, [lk], 0, 0) → oX = (10, [], ((7 + wC b : Nat) : Int), ((7 + wR K b : Nat) : Int)) → B = rsv K (ca + wC l3 + 10 + wC b + 2) (ra + wR K l3 + 11 + wR K b + 2) (ca + wC l3 + 10) (ra + wR K l3 + 11) b → oB = (4, [], ((ca + wC l3 + 3 : Nat) : Int) - (ca + wC l3 + 10 + wC b : Nat), ((ra + wR K l3 + 3 : Nat) : Int) - ((ra + wR K l3 + 11 + wR K b : Nat) + 1)) → oE = (11, [], 0, 0) → W = l3 ++ ([o9] ++ ([o4] ++ ([o2] ++ ([oX] ++ ([oS] ++ (B ++ ([oB] ++ [oE]))))))) → jO K lp ca ra W := by
    intro o9 o4 o2 oX oB oE B W e9 e4 e2 eX eB eb eE eW
    have c9 : wC [o9] = 1 ∧ wR K [o9] = 1 := by rw [e9]; exact ⟨rfl, rfl⟩
    have c4 : wC [o4] = 2 ∧ wR K [o4] = 2 := by rw [e4]; exact ⟨rfl, rfl⟩
    have c2 : wC [o2] = 2 ∧ wR K [o2] = 2 := by rw [e2]; exact ⟨rfl, rfl⟩
    have cX : wC [oX] = 2 ∧ wR K [oX] = 2 := by rw [eX]; exact ⟨rfl, rfl⟩
    have cS : wC [oS] = 3 ∧ wR K [oS] = 4 := by
      rw [(w1 (K := K) oS).1, (w1 oS).2]
      unfold lC lR
      rw [hS]
      exact ⟨rfl, rfl⟩
    have cb : wC [oB] = 2 ∧ wR K [oB] = 2 := by rw [eb]; exact ⟨rfl, rfl⟩
    have cB : wC B = wC b ∧ wR K B = wR K b := by rw [eB]; exact ⟨(rsv_w _ _ _).1, (rsv_w _ _ _).2.1⟩
    have t3 : bnd K W ca ra (ca + (wC l3 : Nat) + (wC [o9] : Nat) + (wC [o4] : Nat)) (ra + (wR K l3 : Nat) + (wR K [o9] : Nat) + (wR K [o4] : Nat)) := by rw [eW]; exact bnd_r (bnd_r (bnd_r bnd_0))
    have t5 : bnd K W ca ra (ca + (wC l3 : Nat) + (wC [o9] : Nat) + (wC [o4] : Nat) + (wC [o2] : Nat)) (ra + (wR K l3 : Nat) + (wR K [o9] : Nat) + (wR K [o4] : Nat) + (wR K [o2] : Nat)) := by rw [eW]; exact bnd_r (bnd_r (bnd_r (bnd_r bnd_0)))
    have te : bnd K W ca ra (ca + (wC l3 : Nat) + (wC [o9] : Nat) + (wC [o4] : Nat) + (wC [o2] : Nat) + (wC [oX] : Nat) + (wC [oS] : Nat) + (wC B : Nat) + (wC [oB] : Nat)) (ra + (wR K l3 : Nat) + (wR K [o9] : Nat) + (wR K [o4] : Nat) + (wR K [o2] : Nat) + (wR K [oX] : Nat) + (wR K [oS] : Nat) + (wR K B : Nat) + (wR K [oB] : Nat)) := by rw [eW]; exact bnd_r (bnd_r (bnd_r (bnd_r (bnd_r (bnd_r (bnd_r (bnd_r bnd_0)))))))
    have inr3 : ∀ p q, bnd K l3 (ca : Int) (ra : Int) p q → bnd K W ca ra p q := fun p q g => by rw [eW]; exact bnd_l g
    have inrB : ∀ p q, bnd K B ((ca : Int) + (wC l3 : Nat) + (wC [o9] : Nat) + (wC [o4] : Nat) + (wC [o2] : Nat) + (wC [oX] : Nat) + (wC [oS] : Nat)) ((ra : Int) + (wR K l3 : Nat) + (wR K [o9] : Nat) + (wR K [o4] : Nat) + (wR K [o2] : Nat) + (wR K [oX] : Nat) + (wR K [oS] : Nat)) p q → bnd K W ca ra p q := fun p q g => by rw [eW]; exact bnd_r (bnd_r (bnd_r (bnd_r (bnd_r (bnd_r (bnd_l g))))))
    have hW : jA K (fun p q => bnd K W ca ra p q ∨ lpP lp p q) ca ra (l3 ++ ([o9] ++ ([o4] ++ ([o2] ++ ([oX] ++ ([oS] ++ (B ++ ([oB] ++ [oE])))))))) := by
      refine jA_app (jF_in h3 (fun p q g => Or.inl (inr3 p q g))) (jA_app (jA_n (by rw [e9]; unfold isJ; dsimp only; omega)) (jA_app (jA_1 (Or.inl (bnd_pq t5 ?_ ?_))) (jA_app (jA_n (by rw [e2]; unfold isJ; dsimp only; omega)) (jA_app (jA_1 (Or.inl (bnd_pq te ?_ ?_))) (jA_app (jA_n (by rw [hS]; unfold isJ; omega)) (jA_app ?_ (jA_app (jA_1 (Or.inl (bnd_pq t3 ?_ ?_))) (jA_n (by rw [eE]; unfold isJ; dsimp only; omega)))))))))
      · have : o4.2.2.1 = 4 := by rw [e4]
        omega
      · have : o4.2.2.2 = 3 := by rw [e4]
        omega
      · have : oX.2.2.1 = ((7 + wC b : Nat) : Int) := by rw [eX]
        omega
      · have : oX.2.2.2 = ((7 + wR K b : Nat) : Int) := by rw [eX]
        omega
      · rw [eB]
        refine jA_at (rsv_jA b _ _ (jO_in hb rfl rfl (fun p q g => Or.inl (inrB p q ?_)) (fun p q g => ?_)) (Or.inl (bnd_pq te ?_ ?_))) ?_ ?_
        · rw [eB]
          exact rsv_bnd (bnd_at g (by omega) (by omega))
        · obtain ⟨g1, g2⟩ := g
          have g1' : p = ((ca + wC l3 + 3 : Nat) : Int) := g1
          have g2' : q = ((ra + wR K l3 + 3 : Nat) : Int) := g2
          exact Or.inl (bnd_pq t3 (by omega) (by omega))
        · omega
        · omega
        · omega
        · omega
      · have : oB.2.2.1 = ((ca + wC l3 + 3 : Nat) : Int) - (ca + wC l3 + 10 + wC b : Nat) := by rw [eb]
        omega
      · have : oB.2.2.2 = ((ra + wR K l3 + 3 : Nat) : Int) - ((ra + wR K l3 + 11 + wR K b : Nat) + 1) := by rw [eb]
        omega
    rw [← eW] at hW
    exact hW
  exact key _ _ _ _ _ _ _ _ rfl rfl rfl rfl rfl rfl rfl rfl
theorem try_J (hx : ∀ o, o ∈ ex → ¬ isJ o.1) (hb : jO K lp (ca + 2) (ra + 2) b) (hd : jO K lp (ca + 2 + wC b + 4 + wC ex) (ra + 2 + wR K b + 3 + wR K ex) d) : jO K lp ca ra ((12, [], ((6 + wC b : Nat) : Int), ((4 + wR K b : Nat) : Int)) :: (b ++ (13, [1], 0, 0) :: (4, [], ((2 + (wC ex + wC d) : Nat) : Int), ((1 + (wR K ex + wR K d) : Nat) : Int)) :: (ex ++ d))) := by
  have key : ∀ (o1 o2 o3 : Op) (W : List Op), o1 = (12, [], ((6 + wC b : Nat) : Int), ((4 + wR K b : Nat) : Int)) → o2 = (13, [1], 0, 0) → o3 = (4, [], ((2 + (wC ex + wC d) : Nat) : Int), ((1 + (wR K ex + wR K d) : Nat) : Int)) → W = [o1] ++ (b ++ ([o2] ++ ([o3] ++ (ex ++ d)))) → jO K lp ca ra W := by
    intro o1 o2 o3 W e1 e2 e3 eW
    have c1 : wC [o1] = 2 ∧ wR K [o1] = 2 := by rw [e1]; exact ⟨rfl, rfl⟩
    have c2 : wC [o2] = 2 ∧ wR K [o2] = 1 := by rw [e2]; exact ⟨rfl, rfl⟩
    have c3 : wC [o3] = 2 ∧ wR K [o3] = 2 := by rw [e3]; exact ⟨rfl, rfl⟩
    have tx : bnd K W ca ra (ca + (wC [o1] : Nat) + (wC b : Nat) + (wC [o2] : Nat) + (wC [o3] : Nat)) (ra + (wR K [o1] : Nat) + (wR K b : Nat) + (wR K [o2] : Nat) + (wR K [o3] : Nat)) := by rw [eW]; exact bnd_r (bnd_r (bnd_r (bnd_r bnd_0)))
    have te : bnd K W ca ra (ca + (wC [o1] : Nat) + (wC b : Nat) + (wC [o2] : Nat) + (wC [o3] : Nat) + (wC ex : Nat) + (wC d : Nat)) (ra + (wR K [o1] : Nat) + (wR K b : Nat) + (wR K [o2] : Nat) + (wR K [o3] : Nat) + (wR K ex : Nat) + (wR K d : Nat)) := by rw [eW]; exact bnd_r (bnd_r (bnd_r (bnd_r (bnd_r bnd_e))))
    have hW : jA K (fun p q => bnd K W ca ra p q ∨ lpP lp p q) ca ra ([o1] ++ (b ++ ([o2] ++ ([o3] ++ (ex ++ d))))) := by
      refine jA_app (jA_1 (Or.inl (bnd_pq tx ?_ ?_))) (jA_app (jO_in hb (by omega) (by omega) (fun p q g => Or.inl (by rw [eW]; exact bnd_r (bnd_l g))) (fun p q g => Or.inr g)) (jA_app (jA_n (by rw [e2]; unfold isJ; dsimp only; omega)) (jA_app (jA_1 (Or.inl (bnd_pq te ?_ ?_))) (jA_app (fun i o hi hj => absurd hj (hx o (List.mem_of_getElem? hi))) (jO_in hd (by omega) (by omega) (fun p q g => Or.inl (by rw [eW]; exact bnd_r (bnd_r (bnd_r (bnd_r (bnd_r g)))))) (fun p q g => Or.inr g))))))
      · have : o1.2.2.1 = ((6 + wC b : Nat) : Int) := by rw [e1]
        omega
      · have : o1.2.2.2 = ((4 + wR K b : Nat) : Int) := by rw [e1]
        omega
      · have : o3.2.2.1 = ((2 + (wC ex + wC d) : Nat) : Int) := by rw [e3]
        omega
      · have : o3.2.2.2 = ((1 + (wR K ex + wR K d) : Nat) : Int) := by rw [e3]
        omega
    rw [← eW] at hW
    exact hW
  exact key _ _ _ _ rfl rfl rfl rfl
theorem if_J (h3 : jG K jF l3) (hb : jO K lp (ca + wC l3 + 2) (ra + wR K l3 + 2) b) (hd : jO K lp (ca + wC l3 + 2 + wC b + 2) (ra + wR K l3 + 2 + wR K b + 2) d) : jO K lp ca ra (l3 ++ (5, [], ((4 + wC b : Nat) : Int), ((3 + wR K b : Nat) : Int)) :: (b ++ (4, [], ((2 + wC d : Nat) : Int), ((1 + wR K d : Nat) : Int)) :: d)) := by
  have key : ∀ (o1 o2 : Op) (W : List Op), o1 = (5, [], ((4 + wC b : Nat) : Int), ((3 + wR K b : Nat) : Int)) → o2 = (4, [], ((2 + wC d : Nat) : Int), ((1 + wR K d : Nat) : Int)) → W = l3 ++ ([o1] ++ (b ++ ([o2] ++ d))) → jO K lp ca ra W := by
    intro o1 o2 W e1 e2 eW
    have c1 : wC [o1] = 2 ∧ wR K [o1] = 2 := by rw [e1]; exact ⟨rfl, rfl⟩
    have c2 : wC [o2] = 2 ∧ wR K [o2] = 2 := by rw [e2]; exact ⟨rfl, rfl⟩
    have tx : bnd K W ca ra (ca + (wC l3 : Nat) + (wC [o1] : Nat) + (wC b : Nat) + (wC [o2] : Nat)) (ra + (wR K l3 : Nat) + (wR K [o1] : Nat) + (wR K b : Nat) + (wR K [o2] : Nat)) := by rw [eW]; exact bnd_r (bnd_r (bnd_r (bnd_r bnd_0)))
    have te : bnd K W ca ra (ca + (wC l3 : Nat) + (wC [o1] : Nat) + (wC b : Nat) + (wC [o2] : Nat) + (wC d : Nat)) (ra + (wR K l3 : Nat) + (wR K [o1] : Nat) + (wR K b : Nat) + (wR K [o2] : Nat) + (wR K d : Nat)) := by rw [eW]; exact bnd_r (bnd_r (bnd_r (bnd_r bnd_e)))
    have hW : jA K (fun p q => bnd K W ca ra p q ∨ lpP lp p q) ca ra (l3 ++ ([o1] ++ (b ++ ([o2] ++ d)))) := by
      refine jA_app (jF_in h3 (fun p q g => Or.inl (by rw [eW]; exact bnd_l g))) (jA_app (jA_1 (Or.inl (bnd_pq tx ?_ ?_))) (jA_app (jO_in hb (by omega) (by omega) (fun p q g => Or.inl (by rw [eW]; exact bnd_r (bnd_r (bnd_l g)))) (fun p q g => Or.inr g)) (jA_app (jA_1 (Or.inl (bnd_pq te ?_ ?_))) (jO_in hd (by omega) (by omega) (fun p q g => Or.inl (by rw [eW]; exact bnd_r (bnd_r (bnd_r (bnd_r g))))) (fun p q g => Or.inr g)))))
      · have : o1.2.2.1 = ((4 + wC b : Nat) : Int) := by rw [e1]
        omega
      · have : o1.2.2.2 = ((3 + wR K b : Nat) : Int) := by rw [e1]
        omega
      · have : o2.2.2.1 = ((2 + wC d : Nat) : Int) := by rw [e2]
        omega
      · have : o2.2.2.2 = ((1 + wR K d : Nat) : Int) := by rw [e2]
        omega
    rw [← eW] at hW
    exact hW
  exact key _ _ _ rfl rfl rfl
theorem if1_J (h3 : jG K jF l3) (hb : jO K lp (ca + wC l3 + 2) (ra + wR K l3 + 2) b) : jO K lp ca ra (l3 ++ (5, [], ((4 + wC b : Nat) : Int), ((1 + wR K b : Nat) : Int)) :: (b ++ [(62, [], 2, 0)])) := by
  have key : ∀ (o1 o2 : Op) (W : List Op), o1 = (5, [], ((4 + wC b : Nat) : Int), ((1 + wR K b : Nat) : Int)) → o2 = (62, [], 2, 0) → W = l3 ++ ([o1] ++ (b ++ [o2])) → jO K lp ca ra W := by
    intro o1 o2 W e1 e2 eW
    have c1 : wC [o1] = 2 ∧ wR K [o1] = 2 := by rw [e1]; exact ⟨rfl, rfl⟩
    have c2 : wC [o2] = 2 ∧ wR K [o2] = 0 := by rw [e2]; exact ⟨rfl, rfl⟩
    have te : bnd K W ca ra (ca + (wC l3 : Nat) + (wC [o1] : Nat) + (wC b : Nat) + (wC [o2] : Nat)) (ra + (wR K l3 : Nat) + (wR K [o1] : Nat) + (wR K b : Nat) + (wR K [o2] : Nat)) := by rw [eW]; exact bnd_r (bnd_r (bnd_r bnd_e))
    have hW : jA K (fun p q => bnd K W ca ra p q ∨ lpP lp p q) ca ra (l3 ++ ([o1] ++ (b ++ [o2]))) := by
      refine jA_app (jF_in h3 (fun p q g => Or.inl (by rw [eW]; exact bnd_l g))) (jA_app (jA_1 (Or.inl (bnd_pq te ?_ ?_))) (jA_app (jO_in hb (by omega) (by omega) (fun p q g => Or.inl (by rw [eW]; exact bnd_r (bnd_r (bnd_l g)))) (fun p q g => Or.inr g)) (jA_n (by rw [e2]; unfold isJ; dsimp only; omega))))
      · have : o1.2.2.1 = ((4 + wC b : Nat) : Int) := by rw [e1]
        omega
      · have : o1.2.2.2 = ((1 + wR K b : Nat) : Int) := by rw [e1]
        omega
    rw [← eW] at hW
    exact hW
  exact key _ _ _ rfl rfl rfl
theorem def_J (hb : jO K none (ca + 2) (ra + 2) b) : jO K lp ca ra ((4, [], ((5 + wC b : Nat) : Int), ((3 + wR K b : Nat) : Int)) :: (b ++ [(63, [], 0, 0), (8, [], 0, 0), (22, [s], 0, 0)])) := by
  have key : ∀ (o1 o2 o3 o4 : Op) (W : List Op), o1 = (4, [], ((5 + wC b : Nat) : Int), ((3 + wR K b : Nat) : Int)) → o2 = (63, [], 0, 0) → o3 = (8, [], 0, 0) → o4 = (22, [s], 0, 0) → W = [o1] ++ (b ++ ([o2] ++ ([o3] ++ [o4]))) → jO K lp ca ra W := by
    intro o1 o2 o3 o4 W e1 e2 e3 e4 eW
    have c1 : wC [o1] = 2 ∧ wR K [o1] = 2 := by rw [e1]; exact ⟨rfl, rfl⟩
    have c2 : wC [o2] = 2 ∧ wR K [o2] = 1 := by rw [e2]; exact ⟨rfl, rfl⟩
    have c3 : wC [o3] = 1 ∧ wR K [o3] = 1 := by rw [e3]; exact ⟨rfl, rfl⟩
    have tx : bnd K W ca ra (ca + (wC [o1] : Nat) + (wC b : Nat) + (wC [o2] : Nat) + (wC [o3] : Nat)) (ra + (wR K [o1] : Nat) + (wR K b : Nat) + (wR K [o2] : Nat) + (wR K [o3] : Nat)) := by rw [eW]; exact bnd_r (bnd_r (bnd_r (bnd_r bnd_0)))
    have hW : jA K (fun p q => bnd K W ca ra p q ∨ lpP lp p q) ca ra ([o1] ++ (b ++ ([o2] ++ ([o3] ++ [o4])))) := by
      refine jA_app (jA_1 (Or.inl (bnd_pq tx ?_ ?_))) (jA_app (jO_in hb (by omega) (by omega) (fun p q g => Or.inl (by rw [eW]; exact bnd_r (bnd_l g))) (fun p q g => g.elim)) (jA_app (jA_n (by rw [e2]; unfold isJ; dsimp only; omega)) (jA_app (jA_n (by rw [e3]; unfold isJ; dsimp only; omega)) (jA_n (by rw [e4]; unfold isJ; dsimp only; omega)))))
      · have : o1.2.2.1 = ((5 + wC b : Nat) : Int) := by rw [e1]
        omega
      · have : o1.2.2.2 = ((3 + wR K b : Nat) : Int) := by rw [e1]
        omega
    rw [← eW] at hW
    exact hW
  exact key _ _ _ _ _ rfl rfl rfl rfl rfl
end
