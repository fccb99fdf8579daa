/-! AT THE LAW'S START: the tables hold (sm_G); the law's walk out of what the function answers -/
def sm_sub : List Bool → Cond → Cond
  | [], c => c
  | q :: r, c => match c with
    | .and a b => sm_sub r (if q = true then b else a)
    | c => c
theorem sm_sub_ok {args : Array Value} {s : State} : ∀ (r : List Bool) (c : Cond), c.before args s = true → (sm_sub r c).before args s = true := by
  intro r
  induction r with
  | nil => intro c h; exact h
  | cons q r ih =>
    intro c h
    cases c with
    | and a b =>
      rw [Cond.before_and, Bool.and_eq_true] at h
      show (sm_sub r (if q = true then b else a)).before args s = true
      split
      · exact ih b h.2
      · exact ih a h.1
    | _ => exact h
def sm_TN : Cond := Jvm.Cond.and given_1 narrow_1
theorem sm_prem {args : Array Value} {s : State} {ws : List Cond} {ps : List (List Bool)} (h : ws = ps.map (fun r => sm_sub r sm_TN)) (hb : sm_TN.before args s = true) : ∀ w ∈ ws, w.before args s = true := by
  intro w hw
  rw [h] at hw
  obtain ⟨r, -, rfl⟩ := List.mem_map.mp hw
  exact sm_sub_ok r _ hb
/-- where each text stands first -/
def mt_sk : List (String × Nat) := [("SnakeCore$Names", 35), ("SnakeCore$Names", 41), ("SnakeCore$Names", 43), ("SnakeCore$Names", 45), ("SnakeCore$Builtins", 224), ("SnakeCore$Builtins", 212), ("SnakeCore$Builtins", 214), ("SnakeCore$Builtins", 216), ("SnakeCore$Builtins", 218), ("SnakeCore$Builtins", 220), ("SnakeCore$Builtins", 222), ("SnakeCore$Builtins", 210), ("SnakeCore$Builtins", 226), ("SnakeCoreModel", 77), ("SnakeCoreModel", 83), ("SnakeCoreModel", 85), ("SnakeCoreModel", 87), ("SnakeCoreModel", 89), ("SnakeCoreModel", 91), ("SnakeCoreModel", 93), ("SnakeCoreModel", 97), ("SnakeCoreModel", 99), ("SnakeCoreModel", 101), ("SnakeCoreModel", 103), ("SnakeCoreModel", 105), ("SnakeCoreModel", 107), ("SnakeCoreModel", 109), ("SnakeCoreModel", 111), ("SnakeCoreModel", 113), ("SnakeCoreModel", 115), ("SnakeCoreModel", 117), ("SnakeCoreModel", 119), ("SnakeCoreModel", 121), ("SnakeCoreModel", 125), ("SnakeCoreModel", 127), ("SnakeCoreModel", 53), ("SnakeCoreModel", 59), ("SnakeCoreModel", 61), ("SnakeCoreModel", 63), ("SnakeCoreModel", 65), ("SnakeCoreModel", 67), ("SnakeCoreModel", 69), ("SnakeCoreModel", 71), ("SnakeCoreModel", 73), ("SnakeCoreModel", 75), ("SnakeCoreModel", 836), ("SnakeCoreModel", 838), ("SnakeCoreModel", 840), ("SnakeCoreModel", 842), ("SnakeCoreModel", 844), ("SnakeCoreModel", 846)]
def sm_tm (i : Nat) : Term := .string (mt_sk.getD i ("", 0)).1 (mt_sk.getD i ("", 0)).2
def sm_fv (i : Nat) : Term := .field (sm_tm i) "java/lang/String" "value" "[B"
/-- what is said of a text -/
def sm_spw (i : Nat) : List Cond := [.exactly (sm_tm i) "java/lang/String", .eq (.field (sm_tm i) "java/lang/String" "coder" "B") (.int 0), .arrayOf (sm_fv i) .byte, .eq (.length (sm_fv i)) (.int (Int32.ofNat (mt_sb.getD i []).length))] ++
  (List.range (mt_sb.getD i []).length).map (fun j => .eq (.elem (sm_fv i) (.int (Int32.ofNat j))) (.int ((mt_sb.getD i []).getD j 0)))
set_option maxRecDepth 100000 in
theorem sm_sp_0 : sm_spw 0 = [[true, false, false, false, false, true, true, false, true, true, false], [true, false, false, false, false, true, true, false, true, true, true], [true, false, false, false, false, true, true, true, false, false], [true, false, false, false, false, true, true, true, false, true, false], [true, false, false, false, false, true, true, true, false, true, true], [true, false, false, false, false, true, true, true, true, false], [true, false, false, false, false, true, true, true, true, true, false], [true, false, false, false, false, true, true, true, true, true, true], [true, false, false, false, true, false, false, false, false, false], [true, false, false, false, true, false, false, false, false, true], [true, false, false, false, true, false, false, false, true, false], [true, false, false, false, true, false, false, false, true, true, false], [true, false, false, false, true, false, false, false, true, true, true], [true, false, false, false, true, false, false, true, false, false], [true, false, false, false, true, false, false, true, false, true, false], [true, false, false, false, true, false, false, true, false, true, true], [true, false, false, false, true, false, false, true, true, false], [true, false, false, false, true, false, false, true, true, true, false], [true, false, false, false, true, false, false, true, true, true, true], [true, false, false, false, true, false, true, false, false, false], [true, false, false, false, true, false, true, false, false, true], [true, false, false, false, true, false, true, false, true, false], [true, false, false, false, true, false, true, false, true, true, false], [true, false, false, false, true, false, true, false, true, true, true], [true, false, false, false, true, false, true, true, false, false], [true, false, false, false, true, false, true, true, false, true, false], [true, false, false, false, true, false, true, true, false, true, true], [true, false, false, false, true, false, true, true, true, false], [true, false, false, false, true, false, true, true, true, true, false], [true, false, false, false, true, false, true, true, true, true, true], [true, false, false, false, true, true, false, false, false, false], [true, false, false, false, true, true, false, false, false, true], [true, false, false, false, true, true, false, false, true, false], [true, false, false, false, true, true, false, false, true, true, false], [true, false, false, false, true, true, false, false, true, true, true], [true, false, false, false, true, true, false, true, false, false], [true, false, false, false, true, true, false, true, false, true, false], [true, false, false, false, true, true, false, true, false, true, true], [true, false, false, false, true, true, false, true, true, false], [true, false, false, false, true, true, false, true, true, true, false], [true, false, false, false, true, true, false, true, true, true, true], [true, false, false, false, true, true, true, false, false, false], [true, false, false, false, true, true, true, false, false, true, false], [true, false, false, false, true, true, true, false, false, true, true], [true, false, false, false, true, true, true, false, true, false], [true, false, false, false, true, true, true, false, true, true, false], [true, false, false, false, true, true, true, false, true, true, true], [true, false, false, false, true, true, true, true, false, false], [true, false, false, false, true, true, true, true, false, true, false], [true, false, false, false, true, true, true, true, false, true, true], [true, false, false, false, true, true, true, true, true, false], [true, false, false, false, true, true, true, true, true, true, false], [true, false, false, false, true, true, true, true, true, true, true], [true, false, false, true, false, false, false, false, false, false], [true, false, false, true, false, false, false, false, false, true], [true, false, false, true, false, false, false, false, true, false], [true, false, false, true, false, false, false, false, true, true, false], [true, false, false, true, false, false, false, false, true, true, true], [true, false, false, true, false, false, false, true, false, false], [true, false, false, true, false, false, false, true, false, true, false], [true, false, false, true, false, false, false, true, false, true, true], [true, false, false, true, false, false, false, true, true, false]].map (fun r => sm_sub r sm_TN) := by rfl
set_option maxRecDepth 100000 in
theorem sm_sp_1 : sm_spw 1 = [[true, false, false, true, false, false, false, true, true, true, false], [true, false, false, true, false, false, false, true, true, true, true], [true, false, false, true, false, false, true, false, false, false], [true, false, false, true, false, false, true, false, false, true], [true, false, false, true, false, false, true, false, true, false], [true, false, false, true, false, false, true, false, true, true, false], [true, false, false, true, false, false, true, false, true, true, true], [true, false, false, true, false, false, true, true, false, false], [true, false, false, true, false, false, true, true, false, true, false], [true, false, false, true, false, false, true, true, false, true, true], [true, false, false, true, false, false, true, true, true, false], [true, false, false, true, false, false, true, true, true, true, false], [true, false, false, true, false, false, true, true, true, true, true], [true, false, false, true, false, true, false, false, false, false], [true, false, false, true, false, true, false, false, false, true], [true, false, false, true, false, true, false, false, true, false], [true, false, false, true, false, true, false, false, true, true, false], [true, false, false, true, false, true, false, false, true, true, true], [true, false, false, true, false, true, false, true, false, false], [true, false, false, true, false, true, false, true, false, true, false], [true, false, false, true, false, true, false, true, false, true, true], [true, false, false, true, false, true, false, true, true, false], [true, false, false, true, false, true, false, true, true, true, false], [true, false, false, true, false, true, false, true, true, true, true], [true, false, false, true, false, true, true, false, false, false], [true, false, false, true, false, true, true, false, false, true, false], [true, false, false, true, false, true, true, false, false, true, true], [true, false, false, true, false, true, true, false, true, false], [true, false, false, true, false, true, true, false, true, true, false], [true, false, false, true, false, true, true, false, true, true, true], [true, false, false, true, false, true, true, true, false, false], [true, false, false, true, false, true, true, true, false, true, false], [true, false, false, true, false, true, true, true, false, true, true], [true, false, false, true, false, true, true, true, true, false], [true, false, false, true, false, true, true, true, true, true, false], [true, false, false, true, false, true, true, true, true, true, true], [true, false, false, true, true, false, false, false, false, false], [true, false, false, true, true, false, false, false, false, true], [true, false, false, true, true, false, false, false, true, false], [true, false, false, true, true, false, false, false, true, true, false], [true, false, false, true, true, false, false, false, true, true, true], [true, false, false, true, true, false, false, true, false, false], [true, false, false, true, true, false, false, true, false, true, false], [true, false, false, true, true, false, false, true, false, true, true], [true, false, false, true, true, false, false, true, true, false], [true, false, false, true, true, false, false, true, true, true, false], [true, false, false, true, true, false, false, true, true, true, true], [true, false, false, true, true, false, true, false, false, false], [true, false, false, true, true, false, true, false, false, true, false], [true, false, false, true, true, false, true, false, false, true, true], [true, false, false, true, true, false, true, false, true, false], [true, false, false, true, true, false, true, false, true, true, false], [true, false, false, true, true, false, true, false, true, true, true], [true, false, false, true, true, false, true, true, false, false], [true, false, false, true, true, false, true, true, false, true, false], [true, false, false, true, true, false, true, true, false, true, true], [true, false, false, true, true, false, true, true, true, false], [true, false, false, true, true, false, true, true, true, true, false], [true, false, false, true, true, false, true, true, true, true, true], [true, false, false, true, true, true, false, false, false, false], [true, false, false, true, true, true, false, false, false, true], [true, false, false, true, true, true, false, false, true, false], [true, false, false, true, true, true, false, false, true, true, false], [true, false, false, true, true, true, false, false, true, true, true], [true, false, false, true, true, true, false, true, false, false], [true, false, false, true, true, true, false, true, false, true, false], [true, false, false, true, true, true, false, true, false, true, true]].map (fun r => sm_sub r sm_TN) := by rfl
set_option maxRecDepth 100000 in
theorem sm_sp_2 : sm_spw 2 = [[true, false, false, true, true, true, false, true, true, false], [true, false, false, true, true, true, false, true, true, true, false], [true, false, false, true, true, true, false, true, true, true, true], [true, false, false, true, true, true, true, false, false, false], [true, false, false, true, true, true, true, false, false, true, false], [true, false, false, true, true, true, true, false, false, true, true], [true, false, false, true, true, true, true, false, true, false], [true, false, false, true, true, true, true, false, true, true, false], [true, false, false, true, true, true, true, false, true, true, true], [true, false, false, true, true, true, true, true, false, false], [true, false, false, true, true, true, true, true, false, true, false], [true, false, false, true, true, true, true, true, false, true, true], [true, false, false, true, true, true, true, true, true, false], [true, false, false, true, true, true, true, true, true, true, false], [true, false, false, true, true, true, true, true, true, true, true], [true, false, true, false, false, false, false, false, false, false], [true, false, true, false, false, false, false, false, false, true], [true, false, true, false, false, false, false, false, true, false], [true, false, true, false, false, false, false, false, true, true, false], [true, false, true, false, false, false, false, false, true, true, true], [true, false, true, false, false, false, false, true, false, false], [true, false, true, false, false, false, false, true, false, true, false], [true, false, true, false, false, false, false, true, false, true, true], [true, false, true, false, false, false, false, true, true, false], [true, false, true, false, false, false, false, true, true, true, false], [true, false, true, false, false, false, false, true, true, true, true], [true, false, true, false, false, false, true, false, false, false], [true, false, true, false, false, false, true, false, false, true], [true, false, true, false, false, false, true, false, true, false], [true, false, true, false, false, false, true, false, true, true, false], [true, false, true, false, false, false, true, false, true, true, true], [true, false, true, false, false, false, true, true, false, false], [true, false, true, false, false, false, true, true, false, true, false], [true, false, true, false, false, false, true, true, false, true, true], [true, false, true, false, false, false, true, true, true, false], [true, false, true, false, false, false, true, true, true, true, false], [true, false, true, false, false, false, true, true, true, true, true], [true, false, true, false, false, true, false, false, false, false], [true, false, true, false, false, true, false, false, false, true], [true, false, true, false, false, true, false, false, true, false], [true, false, true, false, false, true, false, false, true, true, false], [true, false, true, false, false, true, false, false, true, true, true], [true, false, true, false, false, true, false, true, false, false], [true, false, true, false, false, true, false, true, false, true, false], [true, false, true, false, false, true, false, true, false, true, true], [true, false, true, false, false, true, false, true, true, false], [true, false, true, false, false, true, false, true, true, true, false], [true, false, true, false, false, true, false, true, true, true, true], [true, false, true, false, false, true, true, false, false, false], [true, false, true, false, false, true, true, false, false, true, false], [true, false, true, false, false, true, true, false, false, true, true], [true, false, true, false, false, true, true, false, true, false], [true, false, true, false, false, true, true, false, true, true, false], [true, false, true, false, false, true, true, false, true, true, true], [true, false, true, false, false, true, true, true, false, false], [true, false, true, false, false, true, true, true, false, true, false], [true, false, true, false, false, true, true, true, false, true, true], [true, false, true, false, false, true, true, true, true, false]].map (fun r => sm_sub r sm_TN) := by rfl
set_option maxRecDepth 100000 in
theorem sm_sp_3 : sm_spw 3 = [[true, false, true, false, false, true, true, true, true, true, false], [true, false, true, false, false, true, true, true, true, true, true], [true, false, true, false, true, false, false, false, false, false], [true, false, true, false, true, false, false, false, false, true], [true, false, true, false, true, false, false, false, true, false], [true, false, true, false, true, false, false, false, true, true, false], [true, false, true, false, true, false, false, false, true, true, true], [true, false, true, false, true, false, false, true, false, false], [true, false, true, false, true, false, false, true, false, true, false]].map (fun r => sm_sub r sm_TN) := by rfl
set_option maxRecDepth 100000 in
theorem sm_sp_4 : sm_spw 4 = [[true, false, true, false, true, false, false, true, false, true, true], [true, false, true, false, true, false, false, true, true, false], [true, false, true, false, true, false, false, true, true, true, false], [true, false, true, false, true, false, false, true, true, true, true], [true, false, true, false, true, false, true, false, false, false], [true, false, true, false, true, false, true, false, false, true]].map (fun r => sm_sub r sm_TN) := by rfl
set_option maxRecDepth 100000 in
theorem sm_sp_5 : sm_spw 5 = [[true, false, true, false, true, false, true, false, true, false], [true, false, true, false, true, false, true, false, true, true, false], [true, false, true, false, true, false, true, false, true, true, true], [true, false, true, false, true, false, true, true, false, false], [true, false, true, false, true, false, true, true, false, true, false], [true, false, true, false, true, false, true, true, false, true, true], [true, false, true, false, true, false, true, true, true, false], [true, false, true, false, true, false, true, true, true, true, false]].map (fun r => sm_sub r sm_TN) := by rfl
set_option maxRecDepth 100000 in
theorem sm_sp_6 : sm_spw 6 = [[true, false, true, false, true, false, true, true, true, true, true], [true, false, true, false, true, true, false, false, false, false], [true, false, true, false, true, true, false, false, false, true], [true, false, true, false, true, true, false, false, true, false], [true, false, true, false, true, true, false, false, true, true, false], [true, false, true, false, true, true, false, false, true, true, true], [true, false, true, false, true, true, false, true, false, false], [true, false, true, false, true, true, false, true, false, true, false]].map (fun r => sm_sub r sm_TN) := by rfl
set_option maxRecDepth 100000 in
theorem sm_sp_7 : sm_spw 7 = [[true, false, true, false, true, true, false, true, false, true, true], [true, false, true, false, true, true, false, true, true, false], [true, false, true, false, true, true, false, true, true, true, false], [true, false, true, false, true, true, false, true, true, true, true], [true, false, true, false, true, true, true, false, false, false], [true, false, true, false, true, true, true, false, false, true, false], [true, false, true, false, true, true, true, false, false, true, true], [true, false, true, false, true, true, true, false, true, false], [true, false, true, false, true, true, true, false, true, true, false], [true, false, true, false, true, true, true, false, true, true, true], [true, false, true, false, true, true, true, true, false, false], [true, false, true, false, true, true, true, true, false, true, false]].map (fun r => sm_sub r sm_TN) := by rfl
set_option maxRecDepth 100000 in
theorem sm_sp_8 : sm_spw 8 = [[true, false, true, false, true, true, true, true, false, true, true], [true, false, true, false, true, true, true, true, true, false], [true, false, true, false, true, true, true, true, true, true, false], [true, false, true, false, true, true, true, true, true, true, true], [true, false, true, true, false, false, false, false, false, false], [true, false, true, true, false, false, false, false, false, true], [true, false, true, true, false, false, false, false, true, false], [true, false, true, true, false, false, false, false, true, true, false], [true, false, true, true, false, false, false, false, true, true, true]].map (fun r => sm_sub r sm_TN) := by rfl
set_option maxRecDepth 100000 in
theorem sm_sp_9 : sm_spw 9 = [[true, false, true, true, false, false, false, true, false, false], [true, false, true, true, false, false, false, true, false, true, false], [true, false, true, true, false, false, false, true, false, true, true], [true, false, true, true, false, false, false, true, true, false], [true, false, true, true, false, false, false, true, true, true, false], [true, false, true, true, false, false, false, true, true, true, true], [true, false, true, true, false, false, true, false, false, false], [true, false, true, true, false, false, true, false, false, true], [true, false, true, true, false, false, true, false, true, false], [true, false, true, true, false, false, true, false, true, true, false], [true, false, true, true, false, false, true, false, true, true, true], [true, false, true, true, false, false, true, true, false, false]].map (fun r => sm_sub r sm_TN) := by rfl
set_option maxRecDepth 100000 in
theorem sm_sp_10 : sm_spw 10 = [[true, false, true, true, false, false, true, true, false, true, false], [true, false, true, true, false, false, true, true, false, true, true], [true, false, true, true, false, false, true, true, true, false], [true, false, true, true, false, false, true, true, true, true, false], [true, false, true, true, false, false, true, true, true, true, true], [true, false, true, true, false, true, false, false, false, false], [true, false, true, true, false, true, false, false, false, true], [true, false, true, true, false, true, false, false, true, false], [true, false, true, true, false, true, false, false, true, true, false], [true, false, true, true, false, true, false, false, true, true, true]].map (fun r => sm_sub r sm_TN) := by rfl
set_option maxRecDepth 100000 in
theorem sm_sp_11 : sm_spw 11 = [[true, false, true, true, false, true, false, true, false, false], [true, false, true, true, false, true, false, true, false, true, false], [true, false, true, true, false, true, false, true, false, true, true], [true, false, true, true, false, true, false, true, true, false], [true, false, true, true, false, true, false, true, true, true, false], [true, false, true, true, false, true, false, true, true, true, true], [true, false, true, true, false, true, true, false, false, false], [true, false, true, true, false, true, true, false, false, true, false]].map (fun r => sm_sub r sm_TN) := by rfl
set_option maxRecDepth 100000 in
theorem sm_sp_12 : sm_spw 12 = [[true, false, true, true, false, true, true, false, false, true, true], [true, false, true, true, false, true, true, false, true, false], [true, false, true, true, false, true, true, false, true, true, false], [true, false, true, true, false, true, true, false, true, true, true], [true, false, true, true, false, true, true, true, false, false], [true, false, true, true, false, true, true, true, false, true, false]].map (fun r => sm_sub r sm_TN) := by rfl
set_option maxRecDepth 100000 in
theorem sm_sp_13 : sm_spw 13 = [[true, false, true, true, false, true, true, true, false, true, true], [true, false, true, true, false, true, true, true, true, false], [true, false, true, true, false, true, true, true, true, true, false], [true, false, true, true, false, true, true, true, true, true, true], [true, false, true, true, true, false, false, false, false, false], [true, false, true, true, true, false, false, false, false, true]].map (fun r => sm_sub r sm_TN) := by rfl
set_option maxRecDepth 100000 in
theorem sm_sp_14 : sm_spw 14 = [[true, false, true, true, true, false, false, false, true, false], [true, false, true, true, true, false, false, false, true, true, false], [true, false, true, true, true, false, false, false, true, true, true], [true, false, true, true, true, false, false, true, false, false], [true, false, true, true, true, false, false, true, false, true, false], [true, false, true, true, true, false, false, true, false, true, true], [true, false, true, true, true, false, false, true, true, false], [true, false, true, true, true, false, false, true, true, true, false]].map (fun r => sm_sub r sm_TN) := by rfl
set_option maxRecDepth 100000 in
theorem sm_sp_15 : sm_spw 15 = [[true, false, true, true, true, false, false, true, true, true, true], [true, false, true, true, true, false, true, false, false, false], [true, false, true, true, true, false, true, false, false, true, false], [true, false, true, true, true, false, true, false, false, true, true], [true, false, true, true, true, false, true, false, true, false], [true, false, true, true, true, false, true, false, true, true, false], [true, false, true, true, true, false, true, false, true, true, true], [true, false, true, true, true, false, true, true, false, false]].map (fun r => sm_sub r sm_TN) := by rfl
set_option maxRecDepth 100000 in
theorem sm_sp_16 : sm_spw 16 = [[true, false, true, true, true, false, true, true, false, true, false], [true, false, true, true, true, false, true, true, false, true, true], [true, false, true, true, true, false, true, true, true, false], [true, false, true, true, true, false, true, true, true, true, false], [true, false, true, true, true, false, true, true, true, true, true], [true, false, true, true, true, true, false, false, false, false], [true, false, true, true, true, true, false, false, false, true], [true, false, true, true, true, true, false, false, true, false], [true, false, true, true, true, true, false, false, true, true, false]].map (fun r => sm_sub r sm_TN) := by rfl
set_option maxRecDepth 100000 in
theorem sm_sp_17 : sm_spw 17 = [[true, false, true, true, true, true, false, false, true, true, true], [true, false, true, true, true, true, false, true, false, false], [true, false, true, true, true, true, false, true, false, true, false], [true, false, true, true, true, true, false, true, false, true, true], [true, false, true, true, true, true, false, true, true, false], [true, false, true, true, true, true, false, true, true, true, false], [true, false, true, true, true, true, false, true, true, true, true]].map (fun r => sm_sub r sm_TN) := by rfl
set_option maxRecDepth 100000 in
theorem sm_sp_18 : sm_spw 18 = [[true, false, true, true, true, true, true, false, false, false], [true, false, true, true, true, true, true, false, false, true, false], [true, false, true, true, true, true, true, false, false, true, true], [true, false, true, true, true, true, true, false, true, false], [true, false, true, true, true, true, true, false, true, true, false], [true, false, true, true, true, true, true, false, true, true, true]].map (fun r => sm_sub r sm_TN) := by rfl
set_option maxRecDepth 100000 in
theorem sm_sp_19 : sm_spw 19 = [[true, false, true, true, true, true, true, true, false, false], [true, false, true, true, true, true, true, true, false, true, false], [true, false, true, true, true, true, true, true, false, true, true], [true, false, true, true, true, true, true, true, true, false], [true, false, true, true, true, true, true, true, true, true, false], [true, false, true, true, true, true, true, true, true, true, true], [true, true, false, false, false, false, false, false, false, false]].map (fun r => sm_sub r sm_TN) := by rfl
set_option maxRecDepth 100000 in
theorem sm_sp_20 : sm_spw 20 = [[true, true, false, false, false, false, true, false, false, false], [true, true, false, false, false, false, true, false, false, true], [true, true, false, false, false, false, true, false, true, false], [true, true, false, false, false, false, true, false, true, true, false], [true, true, false, false, false, false, true, false, true, true, true], [true, true, false, false, false, false, true, true, false, false], [true, true, false, false, false, false, true, true, false, true, false], [true, true, false, false, false, false, true, true, false, true, true], [true, true, false, false, false, false, true, true, true, false], [true, true, false, false, false, false, true, true, true, true, false]].map (fun r => sm_sub r sm_TN) := by rfl
set_option maxRecDepth 100000 in
theorem sm_sp_21 : sm_spw 21 = [[true, true, false, false, false, false, true, true, true, true, true], [true, true, false, false, false, true, false, false, false, false], [true, true, false, false, false, true, false, false, false, true], [true, true, false, false, false, true, false, false, true, false], [true, true, false, false, false, true, false, false, true, true, false], [true, true, false, false, false, true, false, false, true, true, true], [true, true, false, false, false, true, false, true, false, false], [true, true, false, false, false, true, false, true, false, true, false], [true, true, false, false, false, true, false, true, false, true, true]].map (fun r => sm_sub r sm_TN) := by rfl
set_option maxRecDepth 100000 in
theorem sm_sp_22 : sm_spw 22 = [[true, true, false, false, false, true, false, true, true, false], [true, true, false, false, false, true, false, true, true, true, false], [true, true, false, false, false, true, false, true, true, true, true], [true, true, false, false, false, true, true, false, false, false], [true, true, false, false, false, true, true, false, false, true, false], [true, true, false, false, false, true, true, false, false, true, true], [true, true, false, false, false, true, true, false, true, false], [true, true, false, false, false, true, true, false, true, true, false], [true, true, false, false, false, true, true, false, true, true, true], [true, true, false, false, false, true, true, true, false, false], [true, true, false, false, false, true, true, true, false, true, false], [true, true, false, false, false, true, true, true, false, true, true]].map (fun r => sm_sub r sm_TN) := by rfl
set_option maxRecDepth 100000 in
theorem sm_sp_23 : sm_spw 23 = [[true, true, false, false, false, true, true, true, true, false], [true, true, false, false, false, true, true, true, true, true, false], [true, true, false, false, false, true, true, true, true, true, true], [true, true, false, false, true, false, false, false, false, false], [true, true, false, false, true, false, false, false, false, true], [true, true, false, false, true, false, false, false, true, false], [true, true, false, false, true, false, false, false, true, true, false], [true, true, false, false, true, false, false, false, true, true, true]].map (fun r => sm_sub r sm_TN) := by rfl
set_option maxRecDepth 100000 in
theorem sm_sp_24 : sm_spw 24 = [[true, true, false, false, true, false, false, true, false, false], [true, true, false, false, true, false, false, true, false, true, false], [true, true, false, false, true, false, false, true, false, true, true], [true, true, false, false, true, false, false, true, true, false], [true, true, false, false, true, false, false, true, true, true, false], [true, true, false, false, true, false, false, true, true, true, true], [true, true, false, false, true, false, true, false, false, false]].map (fun r => sm_sub r sm_TN) := by rfl
set_option maxRecDepth 100000 in
theorem sm_sp_25 : sm_spw 25 = [[true, true, false, false, true, false, true, false, false, true], [true, true, false, false, true, false, true, false, true, false], [true, true, false, false, true, false, true, false, true, true, false], [true, true, false, false, true, false, true, false, true, true, true], [true, true, false, false, true, false, true, true, false, false], [true, true, false, false, true, false, true, true, false, true, false], [true, true, false, false, true, false, true, true, false, true, true], [true, true, false, false, true, false, true, true, true, false], [true, true, false, false, true, false, true, true, true, true, false], [true, true, false, false, true, false, true, true, true, true, true]].map (fun r => sm_sub r sm_TN) := by rfl
set_option maxRecDepth 100000 in
theorem sm_sp_26 : sm_spw 26 = [[true, true, false, false, true, true, false, false, false, false], [true, true, false, false, true, true, false, false, false, true], [true, true, false, false, true, true, false, false, true, false], [true, true, false, false, true, true, false, false, true, true, false], [true, true, false, false, true, true, false, false, true, true, true], [true, true, false, false, true, true, false, true, false, false], [true, true, false, false, true, true, false, true, false, true, false]].map (fun r => sm_sub r sm_TN) := by rfl
set_option maxRecDepth 100000 in
theorem sm_sp_27 : sm_spw 27 = [[true, true, false, false, true, true, false, true, false, true, true], [true, true, false, false, true, true, false, true, true, false], [true, true, false, false, true, true, false, true, true, true, false], [true, true, false, false, true, true, false, true, true, true, true], [true, true, false, false, true, true, true, false, false, false], [true, true, false, false, true, true, true, false, false, true, false], [true, true, false, false, true, true, true, false, false, true, true], [true, true, false, false, true, true, true, false, true, false], [true, true, false, false, true, true, true, false, true, true, false], [true, true, false, false, true, true, true, false, true, true, true]].map (fun r => sm_sub r sm_TN) := by rfl
set_option maxRecDepth 100000 in
theorem sm_sp_28 : sm_spw 28 = [[true, true, false, false, true, true, true, true, false, false], [true, true, false, false, true, true, true, true, false, true, false], [true, true, false, false, true, true, true, true, false, true, true], [true, true, false, false, true, true, true, true, true, false], [true, true, false, false, true, true, true, true, true, true, false], [true, true, false, false, true, true, true, true, true, true, true], [true, true, false, true, false, false, false, false, false, false], [true, true, false, true, false, false, false, false, false, true], [true, true, false, true, false, false, false, false, true, false]].map (fun r => sm_sub r sm_TN) := by rfl
set_option maxRecDepth 100000 in
theorem sm_sp_29 : sm_spw 29 = [[true, true, false, true, false, false, false, false, true, true, false], [true, true, false, true, false, false, false, false, true, true, true], [true, true, false, true, false, false, false, true, false, false], [true, true, false, true, false, false, false, true, false, true, false], [true, true, false, true, false, false, false, true, false, true, true], [true, true, false, true, false, false, false, true, true, false], [true, true, false, true, false, false, false, true, true, true, false]].map (fun r => sm_sub r sm_TN) := by rfl
set_option maxRecDepth 100000 in
theorem sm_sp_30 : sm_spw 30 = [[true, true, false, true, false, false, false, true, true, true, true], [true, true, false, true, false, false, true, false, false, false], [true, true, false, true, false, false, true, false, false, true], [true, true, false, true, false, false, true, false, true, false], [true, true, false, true, false, false, true, false, true, true, false], [true, true, false, true, false, false, true, false, true, true, true]].map (fun r => sm_sub r sm_TN) := by rfl
set_option maxRecDepth 100000 in
theorem sm_sp_31 : sm_spw 31 = [[true, true, false, true, false, false, true, true, false, false], [true, true, false, true, false, false, true, true, false, true, false], [true, true, false, true, false, false, true, true, false, true, true], [true, true, false, true, false, false, true, true, true, false], [true, true, false, true, false, false, true, true, true, true, false], [true, true, false, true, false, false, true, true, true, true, true], [true, true, false, true, false, true, false, false, false, false]].map (fun r => sm_sub r sm_TN) := by rfl
set_option maxRecDepth 100000 in
theorem sm_sp_32 : sm_spw 32 = [[true, true, false, true, false, true, false, false, false, true], [true, true, false, true, false, true, false, false, true, false], [true, true, false, true, false, true, false, false, true, true, false], [true, true, false, true, false, true, false, false, true, true, true], [true, true, false, true, false, true, false, true, false, false], [true, true, false, true, false, true, false, true, false, true, false]].map (fun r => sm_sub r sm_TN) := by rfl
set_option maxRecDepth 100000 in
theorem sm_sp_33 : sm_spw 33 = [[true, true, false, true, false, true, true, false, true, true, true], [true, true, false, true, false, true, true, true, false, false], [true, true, false, true, false, true, true, true, false, true, false], [true, true, false, true, false, true, true, true, false, true, true], [true, true, false, true, false, true, true, true, true, false], [true, true, false, true, false, true, true, true, true, true, false], [true, true, false, true, false, true, true, true, true, true, true], [true, true, false, true, true, false, false, false, false, false]].map (fun r => sm_sub r sm_TN) := by rfl
set_option maxRecDepth 100000 in
theorem sm_sp_34 : sm_spw 34 = [[true, true, false, true, true, false, false, false, false, true], [true, true, false, true, true, false, false, false, true, false], [true, true, false, true, true, false, false, false, true, true, false], [true, true, false, true, true, false, false, false, true, true, true], [true, true, false, true, true, false, false, true, false, false], [true, true, false, true, true, false, false, true, false, true, false], [true, true, false, true, true, false, false, true, false, true, true], [true, true, false, true, true, false, false, true, true, false], [true, true, false, true, true, false, false, true, true, true, false]].map (fun r => sm_sub r sm_TN) := by rfl
set_option maxRecDepth 100000 in
theorem sm_sp_35 : sm_spw 35 = [[true, true, false, true, true, false, false, true, true, true, true], [true, true, false, true, true, false, true, false, false, false], [true, true, false, true, true, false, true, false, false, true, false], [true, true, false, true, true, false, true, false, false, true, true], [true, true, false, true, true, false, true, false, true, false], [true, true, false, true, true, false, true, false, true, true, false], [true, true, false, true, true, false, true, false, true, true, true], [true, true, false, true, true, false, true, true, false, false], [true, true, false, true, true, false, true, true, false, true, false]].map (fun r => sm_sub r sm_TN) := by rfl
set_option maxRecDepth 100000 in
theorem sm_sp_36 : sm_spw 36 = [[true, true, false, true, true, false, true, true, false, true, true], [true, true, false, true, true, false, true, true, true, false], [true, true, false, true, true, false, true, true, true, true, false], [true, true, false, true, true, false, true, true, true, true, true], [true, true, false, true, true, true, false, false, false, false], [true, true, false, true, true, true, false, false, false, true], [true, true, false, true, true, true, false, false, true, false]].map (fun r => sm_sub r sm_TN) := by rfl
set_option maxRecDepth 100000 in
theorem sm_sp_37 : sm_spw 37 = [[true, true, false, true, true, true, false, false, true, true, false], [true, true, false, true, true, true, false, false, true, true, true], [true, true, false, true, true, true, false, true, false, false], [true, true, false, true, true, true, false, true, false, true, false], [true, true, false, true, true, true, false, true, false, true, true], [true, true, false, true, true, true, false, true, true, false], [true, true, false, true, true, true, false, true, true, true, false], [true, true, false, true, true, true, false, true, true, true, true], [true, true, false, true, true, true, true, false, false, false]].map (fun r => sm_sub r sm_TN) := by rfl
set_option maxRecDepth 100000 in
theorem sm_sp_38 : sm_spw 38 = [[true, true, false, true, true, true, true, false, false, true, false], [true, true, false, true, true, true, true, false, false, true, true], [true, true, false, true, true, true, true, false, true, false], [true, true, false, true, true, true, true, false, true, true, false], [true, true, false, true, true, true, true, false, true, true, true], [true, true, false, true, true, true, true, true, false, false], [true, true, false, true, true, true, true, true, false, true, false], [true, true, false, true, true, true, true, true, false, true, true]].map (fun r => sm_sub r sm_TN) := by rfl
set_option maxRecDepth 100000 in
theorem sm_sp_39 : sm_spw 39 = [[true, true, false, true, true, true, true, true, true, false], [true, true, false, true, true, true, true, true, true, true, false], [true, true, false, true, true, true, true, true, true, true, true], [true, true, true, false, false, false, false, false, false, false], [true, true, true, false, false, false, false, false, false, true], [true, true, true, false, false, false, false, false, true, false], [true, true, true, false, false, false, false, false, true, true, false]].map (fun r => sm_sub r sm_TN) := by rfl
set_option maxRecDepth 100000 in
theorem sm_sp_40 : sm_spw 40 = [[true, true, true, false, false, false, false, false, true, true, true], [true, true, true, false, false, false, false, true, false, false], [true, true, true, false, false, false, false, true, false, true, false], [true, true, true, false, false, false, false, true, false, true, true], [true, true, true, false, false, false, false, true, true, false], [true, true, true, false, false, false, false, true, true, true, false], [true, true, true, false, false, false, false, true, true, true, true], [true, true, true, false, false, false, true, false, false, false]].map (fun r => sm_sub r sm_TN) := by rfl
set_option maxRecDepth 100000 in
theorem sm_sp_41 : sm_spw 41 = [[true, true, true, false, false, false, true, false, false, true], [true, true, true, false, false, false, true, false, true, false], [true, true, true, false, false, false, true, false, true, true, false], [true, true, true, false, false, false, true, false, true, true, true], [true, true, true, false, false, false, true, true, false, false], [true, true, true, false, false, false, true, true, false, true, false], [true, true, true, false, false, false, true, true, false, true, true], [true, true, true, false, false, false, true, true, true, false]].map (fun r => sm_sub r sm_TN) := by rfl
set_option maxRecDepth 100000 in
theorem sm_sp_42 : sm_spw 42 = [[true, true, true, false, false, false, true, true, true, true, false], [true, true, true, false, false, false, true, true, true, true, true], [true, true, true, false, false, true, false, false, false, false], [true, true, true, false, false, true, false, false, false, true], [true, true, true, false, false, true, false, false, true, false], [true, true, true, false, false, true, false, false, true, true, false], [true, true, true, false, false, true, false, false, true, true, true], [true, true, true, false, false, true, false, true, false, false]].map (fun r => sm_sub r sm_TN) := by rfl
set_option maxRecDepth 100000 in
theorem sm_sp_43 : sm_spw 43 = [[true, true, true, false, false, true, false, true, false, true, false], [true, true, true, false, false, true, false, true, false, true, true], [true, true, true, false, false, true, false, true, true, false], [true, true, true, false, false, true, false, true, true, true, false], [true, true, true, false, false, true, false, true, true, true, true], [true, true, true, false, false, true, true, false, false, false], [true, true, true, false, false, true, true, false, false, true, false], [true, true, true, false, false, true, true, false, false, true, true], [true, true, true, false, false, true, true, false, true, false]].map (fun r => sm_sub r sm_TN) := by rfl
set_option maxRecDepth 100000 in
theorem sm_sp_44 : sm_spw 44 = [[true, true, true, false, false, true, true, false, true, true, false], [true, true, true, false, false, true, true, false, true, true, true], [true, true, true, false, false, true, true, true, false, false], [true, true, true, false, false, true, true, true, false, true, false], [true, true, true, false, false, true, true, true, false, true, true], [true, true, true, false, false, true, true, true, true, false], [true, true, true, false, false, true, true, true, true, true, false], [true, true, true, false, false, true, true, true, true, true, true], [true, true, true, false, true, false, false, false, false, false], [true, true, true, false, true, false, false, false, false, true], [true, true, true, false, true, false, false, false, true, false]].map (fun r => sm_sub r sm_TN) := by rfl
set_option maxRecDepth 100000 in
theorem sm_sp_45 : sm_spw 45 = [[true, true, true, false, true, false, true, true, false, false], [true, true, true, false, true, false, true, true, false, true, false], [true, true, true, false, true, false, true, true, false, true, true], [true, true, true, false, true, false, true, true, true, false], [true, true, true, false, true, false, true, true, true, true, false], [true, true, true, false, true, false, true, true, true, true, true], [true, true, true, false, true, true, false, false, false, false], [true, true, true, false, true, true, false, false, false, true], [true, true, true, false, true, true, false, false, true, false]].map (fun r => sm_sub r sm_TN) := by rfl
set_option maxRecDepth 100000 in
theorem sm_sp_46 : sm_spw 46 = [[true, true, true, false, true, true, false, false, true, true, false], [true, true, true, false, true, true, false, false, true, true, true], [true, true, true, false, true, true, false, true, false, false], [true, true, true, false, true, true, false, true, false, true, false], [true, true, true, false, true, true, false, true, false, true, true], [true, true, true, false, true, true, false, true, true, false], [true, true, true, false, true, true, false, true, true, true, false], [true, true, true, false, true, true, false, true, true, true, true], [true, true, true, false, true, true, true, false, false, false]].map (fun r => sm_sub r sm_TN) := by rfl
set_option maxRecDepth 100000 in
theorem sm_sp_47 : sm_spw 47 = [[true, true, true, false, true, true, true, false, false, true, false], [true, true, true, false, true, true, true, false, false, true, true], [true, true, true, false, true, true, true, false, true, false], [true, true, true, false, true, true, true, false, true, true, false], [true, true, true, false, true, true, true, false, true, true, true], [true, true, true, false, true, true, true, true, false, false], [true, true, true, false, true, true, true, true, false, true, false], [true, true, true, false, true, true, true, true, false, true, true], [true, true, true, false, true, true, true, true, true, false], [true, true, true, false, true, true, true, true, true, true, false], [true, true, true, false, true, true, true, true, true, true, true], [true, true, true, true, false, false, false, false, false, false], [true, true, true, true, false, false, false, false, false, true]].map (fun r => sm_sub r sm_TN) := by rfl
set_option maxRecDepth 100000 in
theorem sm_sp_48 : sm_spw 48 = [[true, true, true, true, false, false, false, false, true, false], [true, true, true, true, false, false, false, false, true, true, false], [true, true, true, true, false, false, false, false, true, true, true], [true, true, true, true, false, false, false, true, false, false], [true, true, true, true, false, false, false, true, false, true, false], [true, true, true, true, false, false, false, true, false, true, true], [true, true, true, true, false, false, false, true, true, false], [true, true, true, true, false, false, false, true, true, true, false], [true, true, true, true, false, false, false, true, true, true, true], [true, true, true, true, false, false, true, false, false, false]].map (fun r => sm_sub r sm_TN) := by rfl
set_option maxRecDepth 100000 in
theorem sm_sp_49 : sm_spw 49 = [[true, true, true, true, false, false, true, false, false, true], [true, true, true, true, false, false, true, false, true, false], [true, true, true, true, false, false, true, false, true, true, false], [true, true, true, true, false, false, true, false, true, true, true], [true, true, true, true, false, false, true, true, false, false], [true, true, true, true, false, false, true, true, false, true, false], [true, true, true, true, false, false, true, true, false, true, true], [true, true, true, true, false, false, true, true, true, false], [true, true, true, true, false, false, true, true, true, true, false], [true, true, true, true, false, false, true, true, true, true, true], [true, true, true, true, false, true, false, false, false, false], [true, true, true, true, false, true, false, false, false, true], [true, true, true, true, false, true, false, false, true, false]].map (fun r => sm_sub r sm_TN) := by rfl
set_option maxRecDepth 100000 in
theorem sm_sp_50 : sm_spw 50 = [[true, true, true, true, false, true, false, false, true, true, false], [true, true, true, true, false, true, false, false, true, true, true], [true, true, true, true, false, true, false, true, false, false], [true, true, true, true, false, true, false, true, false, true, false], [true, true, true, true, false, true, false, true, false, true, true], [true, true, true, true, false, true, false, true, true, false], [true, true, true, true, false, true, false, true, true, true, false], [true, true, true, true, false, true, false, true, true, true, true], [true, true, true, true, false, true, true, false, false, false], [true, true, true, true, false, true, true, false, false, true, false], [true, true, true, true, false, true, true, false, false, true, true]].map (fun r => sm_sub r sm_TN) := by rfl
theorem sm_spall {args : Array Value} {s : State} (hb : sm_TN.before args s = true) : ∀ i : Nat, i < mt_sb.length → ∀ w ∈ sm_spw i, w.before args s = true
  | 0, _ => sm_prem sm_sp_0 hb
  | 1, _ => sm_prem sm_sp_1 hb
  | 2, _ => sm_prem sm_sp_2 hb
  | 3, _ => sm_prem sm_sp_3 hb
  | 4, _ => sm_prem sm_sp_4 hb
  | 5, _ => sm_prem sm_sp_5 hb
  | 6, _ => sm_prem sm_sp_6 hb
  | 7, _ => sm_prem sm_sp_7 hb
  | 8, _ => sm_prem sm_sp_8 hb
  | 9, _ => sm_prem sm_sp_9 hb
  | 10, _ => sm_prem sm_sp_10 hb
  | 11, _ => sm_prem sm_sp_11 hb
  | 12, _ => sm_prem sm_sp_12 hb
  | 13, _ => sm_prem sm_sp_13 hb
  | 14, _ => sm_prem sm_sp_14 hb
  | 15, _ => sm_prem sm_sp_15 hb
  | 16, _ => sm_prem sm_sp_16 hb
  | 17, _ => sm_prem sm_sp_17 hb
  | 18, _ => sm_prem sm_sp_18 hb
  | 19, _ => sm_prem sm_sp_19 hb
  | 20, _ => sm_prem sm_sp_20 hb
  | 21, _ => sm_prem sm_sp_21 hb
  | 22, _ => sm_prem sm_sp_22 hb
  | 23, _ => sm_prem sm_sp_23 hb
  | 24, _ => sm_prem sm_sp_24 hb
  | 25, _ => sm_prem sm_sp_25 hb
  | 26, _ => sm_prem sm_sp_26 hb
  | 27, _ => sm_prem sm_sp_27 hb
  | 28, _ => sm_prem sm_sp_28 hb
  | 29, _ => sm_prem sm_sp_29 hb
  | 30, _ => sm_prem sm_sp_30 hb
  | 31, _ => sm_prem sm_sp_31 hb
  | 32, _ => sm_prem sm_sp_32 hb
  | 33, _ => sm_prem sm_sp_33 hb
  | 34, _ => sm_prem sm_sp_34 hb
  | 35, _ => sm_prem sm_sp_35 hb
  | 36, _ => sm_prem sm_sp_36 hb
  | 37, _ => sm_prem sm_sp_37 hb
  | 38, _ => sm_prem sm_sp_38 hb
  | 39, _ => sm_prem sm_sp_39 hb
  | 40, _ => sm_prem sm_sp_40 hb
  | 41, _ => sm_prem sm_sp_41 hb
  | 42, _ => sm_prem sm_sp_42 hb
  | 43, _ => sm_prem sm_sp_43 hb
  | 44, _ => sm_prem sm_sp_44 hb
  | 45, _ => sm_prem sm_sp_45 hb
  | 46, _ => sm_prem sm_sp_46 hb
  | 47, _ => sm_prem sm_sp_47 hb
  | 48, _ => sm_prem sm_sp_48 hb
  | 49, _ => sm_prem sm_sp_49 hb
  | 50, _ => sm_prem sm_sp_50 hb
  | n + 51, h => absurd (show n + 51 < 51 from h) (by omega)
/-- a text's other places: owner, entry, text, which way round, the premise's path -/
def mt_s2 : List (Nat × Nat × Nat × Bool × List Bool) := [(14, 95, 8, true, [true, true, false, false, false, false, false, true, true, true, true]), (14, 123, 11, true, [true, true, false, true, false, true, true, false, true, true, false]), (14, 829, 4, true, [true, true, true, false, true, false, false, true, true, true, false]), (14, 834, 12, true, [true, true, true, false, true, false, true, false, true, true, true])]
def sm_s2w (e : Nat × Nat × Nat × Bool × List Bool) : Cond := if e.2.2.2.1 = true then .eq (sm_tm e.2.2.1) (.string (sm_on e.1) e.2.1) else .eq (.string (sm_on e.1) e.2.1) (sm_tm e.2.2.1)
theorem sm_s2ok : mt_s2.map sm_s2w = mt_s2.map (fun e => sm_sub e.2.2.2.2 sm_TN) := by rfl
theorem sm_csall : ((List.range mt_cs.length).all fun o => (mt_cs.getD o []).all fun e => decide (sm_on o = (mt_sk.getD e.2.1 ("", 0)).1 ∧ e.1 = (mt_sk.getD e.2.1 ("", 0)).2) || mt_s2.any (fun q => decide (q.1 = o ∧ q.2.1 = e.1 ∧ q.2.2.1 = e.2.1))) = true := by decide +kernel
theorem sm_st0 : ([.eq (.static "java/lang/String" "COMPACT_STRINGS" "Z") (.int 1), .isRef (.static "jdk/internal/util/Preconditions" "SIOOBE_FORMATTER" "Ljava/util/function/BiFunction;")] : List Cond) = [[true, false, false, false, false, false, false, false, true, false], [true, false, false, false, false, false, false, false, true, true, false]].map (fun r => sm_sub r sm_TN) := by rfl
set_option maxRecDepth 100000 in
theorem sm_stw : ([.laysStatic "java/lang/String" "COMPACT_STRINGS" "Z", .initialized "java/lang/String", .laysStatic "jdk/internal/util/Preconditions" "SIOOBE_FORMATTER" "Ljava/util/function/BiFunction;", .initialized "jdk/internal/util/Preconditions"] : List Cond).map some = ([452, 336, 468, 338] : List Nat).map (fun i => lw_tbl[i]?) := by rfl
set_option maxRecDepth 100000 in
theorem sm_insw : ((List.range mt_cl.length).map (fun ci => Cond.instantiable (sm_T ci).1 (sm_T ci).2.2)).map some = ([784, 699, 366, 585, 815, 432, 821, 538, 645, 764, 697, 358, 2403, 2765, 2064] : List Nat).map (fun i => lw_tbl[i]?) := by rfl
set_option maxRecDepth 100000 in
theorem sm_aow : ((mt_el.drop 4).map Cond.arrayOver).map some = ([372, 2070, 2072] : List Nat).map (fun i => lw_tbl[i]?) := by rfl
theorem sm_Gmem {w : Cond} (h : w ∈ sm_GW) : w ∈ lw_tbl := (List.mem_filter.mp h).1
theorem sm_eqtt {args : Array Value} {s : State} {t1 t2 : Term} {v : Value} (h : (Cond.eq t1 t2).before args s = true) (h1 : t1.eval args s none [] s = some v) : t2.eval args s none [] s = some v := by
  simp only [Cond.before, Cond.holds, Cond.value, h1] at h
  cases h2 : t2.eval args s none [] s with
  | none => simp [h2] at h
  | some w =>
    simp only [h2] at h
    first
      | (simp at h; rw [h])
      | (cases v <;> cases w <;> simp_all)
theorem sm_eqtt2 {args : Array Value} {s : State} {t1 t2 : Term} {v : Value} (h : (Cond.eq t1 t2).before args s = true) (h2 : t2.eval args s none [] s = some v) : t1.eval args s none [] s = some v := by
  simp only [Cond.before, Cond.holds, Cond.value, h2] at h
  cases h1 : t1.eval args s none [] s with
  | none => simp [h1] at h
  | some w =>
    simp only [h1] at h
    first
      | (simp at h; rw [h])
      | (cases v <;> cases w <;> simp_all)
def sm_rz (r : Option Nat) : Nat := match r with
  | none => 0
  | some a => a + 1
theorem sm_end_int {i : Instr} {st : List Value} {z : Int32} (hq : sm_end (some .boolean) i st = some (some (.int z))) : i = .ireturn ∧ st = [.int z] := by
  unfold sm_end at hq
  split at hq
  · dsimp only at hq
    split at hq
    · cases hq
      exact ⟨rfl, rfl⟩
    · cases hq
  · cases hq
  · cases hq
  · cases hq
  · cases hq
/-- the tables at the law's start -/
theorem sm_startG {s : State} {A : Array Value} {bs L : Nat} {xs : Nat → Int32} (hts : ∀ w ∈ lw_tbl, w.before A s = true) (hX : va_X bs L xs s s.heap) (hbl : bs < s.heap.size) (hgv : sm_TN.before A s = true) :
    ∃ (x : Nat → Nat) (D : va_G) (aC : Nat → ClassId), x 100000 = bs ∧ sm_G s.heap.size x s.heap D aC (some (L, xs)) s := by
  have hA : ∀ a : Nat, a < s.heap.size → ¬ s.heap.size ≤ a := fun a h => by omega
  -- classes
  have hcl : ∀ k : Nat, ∃ q : ClassId × (Nat → Nat), k < mt_cl.length → u_Kn s (sm_T k).1 (sm_T k).2.1 (sm_T k).2.2 q.1 q.2 := by
    intro k
    by_cases hk : k < mt_cl.length
    · have hi : Cond.instantiable (sm_T k).1 (sm_T k).2.2 ∈ lw_tbl := sm_uw_mem sm_insw _ (List.mem_map.mpr ⟨k, List.mem_range.mpr hk, rfl⟩)
      obtain ⟨c0, i0, h⟩ := u_known hts (sm_uw_all k hk) (hts _ hi)
      exact ⟨(c0, i0), fun _ => h⟩
    · exact ⟨(0, fun _ => 0), fun h => absurd h hk⟩
  obtain ⟨fc, hfc⟩ := Classical.axiomOfChoice hcl
  -- arrays
  have hel : ∀ t : Nat, ∃ cA : ClassId, t < mt_el.length → (ArrOfT s cA (sm_el t) ∧ s.vm.findClass ("[" ++ (sm_el t).toString) = some cA) ∧ ((sm_el t).isReference = true → ∃ (kA : Class) (comp : ClassId), s.vm.classes[cA]? = some kA ∧ kA.kind = .array comp (sm_el t) ∧ s.vm.findClass (sm_elS t) = some comp) := by
    intro t
    by_cases ht : t < mt_el.length
    · by_cases h4 : t < 4
      · have hw : Cond.arrayClass (sm_el t) ∈ lw_tbl := by
          rcases (show t = 0 ∨ t = 1 ∨ t = 2 ∨ t = 3 by omega) with rfl | rfl | rfl | rfl
          · exact sm_Gmem (sm_arrw _ (Or.inl rfl))
          · exact sm_Gmem (sm_arrw _ (Or.inr (Or.inl rfl)))
          · exact sm_Gmem (sm_arrw _ (Or.inr (Or.inr (Or.inl rfl))))
          · exact sm_Gmem (sm_arrw _ (Or.inr (Or.inr (Or.inr rfl))))
        obtain ⟨cA, kA, comp, h1, h2, h3⟩ := Cond.arrayClass_spec (hts _ hw)
        refine ⟨cA, fun _ => ⟨⟨fun n z => ⟨fun k h => (by cases h), kA, h2, comp, h3⟩, h1⟩, fun hr => ?_⟩⟩
        rcases (show t = 0 ∨ t = 1 ∨ t = 2 ∨ t = 3 by omega) with rfl | rfl | rfl | rfl <;> cases hr
      · have hr := sm_elR t ht (by omega)
        have hw : Cond.arrayOver (sm_el t) ∈ lw_tbl := by
          refine sm_uw_mem sm_aow _ (List.mem_map.mpr ⟨sm_el t, ?_, rfl⟩)
          have e : mt_el[t]? = some (sm_el t) := by
            unfold sm_el
            rw [List.getD_eq_getElem?_getD, List.getElem?_eq_getElem ht]
            rfl
          have e2 : (mt_el.drop 4)[t - 4]? = some (sm_el t) := by
            rw [List.getElem?_drop, show 4 + (t - 4) = t by omega]
            exact e
          exact List.mem_of_getElem? e2
        have h := hts _ hw
        generalize hty : sm_el t = ty at *
        cases ty with
        | object C =>
          obtain ⟨comp, cA, kA, h1, h2, h3, h4, h5⟩ := Cond.arrayOver_spec h
          refine ⟨cA, fun _ => ⟨⟨fun n z => ⟨fun k h => (by cases h), kA, h3, comp, h4⟩, h5⟩, fun _ => ⟨kA, comp, h3, h4, ?_⟩⟩⟩
          unfold sm_elS
          rw [hty]
          exact h1
        | array ty =>
          obtain ⟨comp, cA, kA, h1, h2, h3, h4, h5⟩ := arrayOverA_spec h
          refine ⟨cA, fun _ => ⟨⟨fun n z => ⟨fun k h => (by cases h), kA, h3, comp, h4⟩, h5⟩, fun _ => ⟨kA, comp, h3, h4, ?_⟩⟩⟩
          unfold sm_elS
          rw [hty]
          exact h1
        | _ => cases hr
    · exact ⟨0, fun h => absurd h ht⟩
  obtain ⟨aC, haC⟩ := Classical.axiomOfChoice hel
  -- texts
  have h0 : ∀ i : Nat, ∃ q : Nat × Nat, i < mt_sb.length → (sm_tm i).eval A s none [] s = some (.ref q.1) ∧ va_O "java/lang/String" q.1 (fun q => s.heap.size ≤ q) s s.heap ∧ va_OF "java/lang/String" "coder" "B" (.int 0) q.1 (fun q => s.heap.size ≤ q) s s.heap ∧ va_OF "java/lang/String" "value" "[B" (.ref q.2) q.1 (fun q => s.heap.size ≤ q) s s.heap ∧ va_T .byte q.2 (mt_sb.getD i []).length (fun j => .int ((mt_sb.getD i []).getD j 0)) (fun q => s.heap.size ≤ q) s s.heap := by
    intro i
    by_cases hi : i < mt_sb.length
    · have hp := sm_spall hgv i hi
      have hex := hp (.exactly (sm_tm i) "java/lang/String") (by unfold sm_spw; simp)
      have hco := hp (.eq (.field (sm_tm i) "java/lang/String" "coder" "B") (.int 0)) (by unfold sm_spw; simp)
      have har := hp (.arrayOf (sm_fv i) .byte) (by unfold sm_spw; simp)
      have hle := hp (.eq (.length (sm_fv i)) (.int (Int32.ofNat (mt_sb.getD i []).length))) (by unfold sm_spw; simp)
      have hel : ∀ j : Nat, j < (mt_sb.getD i []).length → (Cond.eq (.elem (sm_fv i) (.int (Int32.ofNat j))) (.int ((mt_sb.getD i []).getD j 0))).before A s = true := fun j hj => hp _ (by unfold sm_spw; exact List.mem_append_right _ (List.mem_map.mpr ⟨j, List.mem_range.mpr hj, rfl⟩))
      obtain ⟨a, c, cA, kA, q1, q2, q3, q4, q5, q6, -⟩ := Cond.exactly_spec (args := A) (first := s) (o := none) (s := s) (idx := []) (t := sm_tm i) (cls := "java/lang/String") hex
      obtain ⟨t, ht, hT⟩ := va_Tof (f := fun j => .int ((mt_sb.getD i []).getD j 0)) (A := fun q => s.heap.size ≤ q) (sm_sbN i hi) har (va_eqt hle) (fun j hj => va_eqt (hel j hj)) hA
      exact ⟨(a, t), fun _ => ⟨q1, ⟨cA, q3, q5, by rw [q6]; exact q2, hA a (Array.getElem?_eq_some_iff.mp q3).1⟩, vk_OFof q1 (va_eqt hco) hA, vk_OFof q1 ht hA, hT⟩⟩
    · exact ⟨(0, 0), fun h => absurd h hi⟩
  obtain ⟨ad, had⟩ := Classical.axiomOfChoice h0
  -- statics
  have hst := sm_prem sm_st0 hgv
  have hz1 : va_Z "java/lang/String" "COMPACT_STRINGS" "Z" (.int 1) (fun q => s.heap.size ≤ q) s s.heap := va_Zof (hts _ (sm_uw_mem sm_stw _ (by simp))) (hts _ (sm_uw_mem sm_stw _ (by simp))) (va_eqi (hst _ (by simp))) hA
  have hz2 := va_Zqof (C := "jdk/internal/util/Preconditions") (n := "SIOOBE_FORMATTER") (d := "Ljava/util/function/BiFunction;") (hts _ (sm_uw_mem sm_stw _ (by simp))) (hts _ (sm_uw_mem sm_stw _ (by simp))) (hst _ (by simp)) hA
  obtain ⟨rz, hz2⟩ : ∃ r : Option Nat, va_Z "jdk/internal/util/Preconditions" "SIOOBE_FORMATTER" "Ljava/util/function/BiFunction;" (va_rf r) (fun q => s.heap.size ≤ q) s s.heap := by
    rcases hz2 with h | ⟨t, h⟩
    · exact ⟨none, h⟩
    · exact ⟨some t, h⟩
  have hlb := sm_sbl
  let x : Nat → Nat := fun q => if q = 100000 then bs else if q = 100001 then (sm_rz rz) else if q % 2 = 0 then (ad (q / 2)).1 else (ad (q / 2)).2
  have hx0 : ∀ i : Nat, i < mt_sb.length → x (2 * i) = (ad i).1 := by
    intro i hi
    show (if 2 * i = 100000 then bs else if 2 * i = 100001 then (sm_rz rz) else if 2 * i % 2 = 0 then (ad (2 * i / 2)).1 else (ad (2 * i / 2)).2) = _
    rw [if_neg (by omega), if_neg (by omega), if_pos (by omega), show 2 * i / 2 = i by omega]
  have hx1 : ∀ i : Nat, i < mt_sb.length → x (2 * i + 1) = (ad i).2 := by
    intro i hi
    show (if 2 * i + 1 = 100000 then bs else if 2 * i + 1 = 100001 then (sm_rz rz) else if (2 * i + 1) % 2 = 0 then (ad ((2 * i + 1) / 2)).1 else (ad ((2 * i + 1) / 2)).2) = _
    rw [if_neg (by omega), if_neg (by omega), if_neg (by omega), show (2 * i + 1) / 2 = i by omega]
  have hx3 : sm_r s.heap.size x (.retAddr 100001) = va_rf rz := by
    show (if (100001 : Nat) = 100001 then (if x 100001 = 0 then Value.null else .ref (x 100001 - 1)) else .ref (x 100001)) = _
    rw [if_pos rfl]
    have e : x 100001 = (sm_rz rz) := by
      show (if (100001 : Nat) = 100000 then bs else if (100001 : Nat) = 100001 then (sm_rz rz) else if (100001 : Nat) % 2 = 0 then (ad (100001 / 2)).1 else (ad (100001 / 2)).2) = _
      rw [if_neg (by decide), if_pos rfl]
    rw [e]
    cases rz with
    | none => rfl
    | some a => rfl
  refine ⟨x, (fun k => (fc k).1, fun k => (fc k).2), aC, if_pos rfl, fun k q hk => ?_, fun t ht => (haC t ht).1, fun t ht => (haC t ht).2, fun w hw hn => va_Nw.of (sm_nestS hn) (hts w hw), fun i hi => ?_, fun o e he => ?_, ⟨?_, ?_⟩, fun o e he => ?_, fun w hw ha => ?_⟩
  · have hk2 := (List.getElem?_eq_some_iff.mp hk).1
    rw [sm_Tat hk2] at hk
    cases hk
    exact hfc k hk2
  · obtain ⟨-, g1, g2, g3, g4⟩ := had i hi
    dsimp only
    rw [hx0 i hi, hx1 i hi]
    have hlen : (mt_sb.map List.length).getD i 0 = (mt_sb.getD i []).length := by
      rw [List.getD_eq_getElem?_getD, List.getD_eq_getElem?_getD, List.getElem?_map]
      cases mt_sb[i]? <;> rfl
    rw [hlen]
    exact ⟨g1, g2, g3, g4⟩
  · have hi := sm_strs o e he
    obtain ⟨g0, -⟩ := had e.2.1 hi
    rw [hx0 _ hi]
    have hw := List.map_inj_left.mp (sm_csok_all o) _ he
    have hwm := hts _ (List.mem_of_getElem? hw)
    have hev : (Term.string (sm_on o) e.1).eval A s none [] s = some (.ref (ad e.2.1).1) := by
      have hc := sm_rowR sm_csall he
      simp only [Bool.or_eq_true, decide_eq_true_eq, List.any_eq_true] at hc
      rcases hc with ⟨h1, h2⟩ | ⟨q, hq, h1, h2, h3⟩
      · unfold sm_tm at g0
        rw [h1, h2]
        exact g0
      · have hp := List.map_inj_left.mp sm_s2ok _ hq
        have hb : (sm_s2w q).before A s = true := by rw [hp]; exact sm_sub_ok _ _ hgv
        unfold sm_s2w at hb
        rw [h1, h2, h3] at hb
        split at hb
        · exact sm_eqtt hb g0
        · exact sm_eqtt2 hb g0
    exact vk_R.of hwm hev
  · intro Y hY
    cases hY
    rw [show x 100000 = bs from if_pos rfl]
    exact hX
  · rw [show x 100000 = bs from if_pos rfl]
    exact hbl
  · have hg := sm_row sm_gschk he
    simp only [decide_eq_true_eq] at hg
    rcases hg with ⟨h1, h2⟩ | ⟨h1, h2⟩
    · rw [h1, h2]
      exact hz1
    · rw [h1, h2, hx3]
      exact hz2
  · exact sm_ao_args (A := #[]) ha (by
      have h1 := hts w hw
      unfold sm_ao at ha
      split at ha
      · exact h1
      · exact h1
      · cases ha)
/-- THE LAW's WALK, out of what the function answers -/
theorem sm_start (hev : ∀ (L : Nat) (xs : Nat → Int32), L ≤ 6 → ∃ (d n : Nat) (σ1 : sm_H) (u1 : Nat), d + 1 ≤ 2048 ∧ 100 * (d + 1) ≤ 84000 ∧ σ1.length ≤ 600000 ∧ u1 ≤ 7302250 ∧ sm_run (some (L, xs)) (sm_ev (some (L, xs)) d n) 1000 n (0, [(0, .retAddr 100000)], [], [], 0) = some (some (.int 1), σ1, u1))
    {p : Program} {e : Env} {s : State} {m : MethodId} {below : List Frame} {meth : Method} {c : Code} (l : Launch) {b L : Nat} {xs : Nat → Int32} (hL : L ≤ 6)
    (hx : p.tables.exec = Jvm.exec) (hb : c.code = code) (hr : meth.sig.returnType = ret) (hml : c.maxLocals = 4) (hown : s.vm.findClass RL = some m.cls) (hts : ∀ w ∈ lw_tbl, w.before #[Value.ref b] s = true) (hX : va_X b L xs s s.heap) (hbl : b < s.heap.size) (hgv : sm_TN.before #[Value.ref b] s = true)
    {Q : State → Prop} (RET : ∀ (pc : Nat) (H : Heap) (ls : Array Slot), decode code pc = .ok (.ireturn, 1) → W p l e room_1 s m #[Value.ref b] below meth c H [] 600000 7302250 Q (F0 m pc ls [.int 1])) :
    W p l e room_1 s m #[Value.ref b] below meth c s.heap [] 0 0 Q (entryFrame m ([Value.ref b] : List Value).toArray 4) := by
  obtain ⟨x, D, aC, hxb, G⟩ := sm_startG hts hX hbl hgv
  obtain ⟨d, n, σ1, u1, hd1, hd2, hc, hu, hrun⟩ := hev L xs hL
  have hw : sm_w s.heap.size x s.heap D aC [] s.heap := ⟨rfl, fun _ _ => rfl, fun k q h => by simp at h⟩
  have hl := lv_entry ([.ref b]) (n := 4) (Nat.le_of_ble_eq_true rfl)
  have e1 : lv_args 0 [Value.ref b] = sm_lr s.heap.size x [(0, .retAddr 100000)] := by
    show [(0, Value.ref b)] = [(0, sm_r s.heap.size x (.retAddr 100000))]
    rw [sm_rR (by decide), hxb]
  rw [e1] at hl
  rw [lg_entry_eq]
  refine sm_run_ok (X := some (L, xs)) (j := 1000) (n0 := 0) (u0 := 0) (d := d) (v := some (.int 1)) (σ1 := σ1) (u1 := u1) (fun j1 as σ u v σ1 u1 h => sm_ev_mono d n j1 as σ u v σ1 u1 h) (fun j1 as σ u v σ1 u1 hj h => sm_ev_ok d n j1 as σ u v σ1 u1 hj h) hx hb hml G (fun w hw => hts w (sm_Gmem hw)) hown (fun h => absurd h (by decide +kernel)) rfl hd1 hd2 ?_ ?_ ?_ n 0 [(0, .retAddr 100000)] [] [] 0 s.heap [] _ 0 0 hrun hw (fun q hq => by cases hq) hl rfl rfl
  · show σ1.length ≤ 0 + 600000
    omega
  · show u1 ≤ 0 + 7302250
    omega
  · intro pc i st H locs ls hd hq hw1 hL1
    have hq2 := sm_end_int (show sm_end (some .boolean) i st = some (some (.int 1)) from hq)
    obtain ⟨rfl, rfl⟩ := hq2
    refine va_forget hL1 ?_
    exact W.widen (k := 600000) (n := 7302250) (by omega) (by omega) (RET pc H ls hd)
