/-! STATEMENTS, pure: over the kinds K, lines L, indents I of a row of tokens; E: two names are the same.  Scopes: by number (the scope around, where its code begins in both programs, its name's token), and all entries in their order: (scope, token of the name, kind: 0 bound, 1 parameter, 2 global).  lp: of the loop around: the places of its BACK in both programs, the tries around it.  ca, ra: places in both programs from the text's start on.  A result: the line of a fault, or the token behind, the steps, the scopes, the names of a class's attributes. -/
abbrev SCs : Type := List (Nat × Nat × Nat × Nat) × List (Nat × Nat × Nat)
abbrev LpT : Type := Option (Nat × Nat × Nat)
abbrev PT : Type := Nat × List Op × SCs × List Nat
abbrev PSr : Type := Nat ⊕ PT
abbrev RsT : Type := Nat → Nat → Nat → Nat → LpT → Nat → Nat → Nat → SCs → List Nat → Nat → PSr
def sb (r : PSr) (f : PT → PSr) : PSr := match r with
  | .inl l => .inl l
  | .inr x => f x
def pb (l : Nat) (r : PR) (f : Nat × Nat × List Op → PSr) : PSr := match r with
  | none => .inl l
  | some x => f x
def tgsc (s : Nat) (o : Op) : Op := if 18 ≤ o.1 ∧ o.1 ≤ 21 then (o.1, [o.2.1.headD 0, s], o.2.2.1, o.2.2.2) else o
def exs (K : Nat → Nat) (s k : Nat) : PR := (px K 60000 0 0 k 0 0).bind fun r => some (r.1, r.2.1, r.2.2.map (tgsc s))
def scF (E : Nat → Nat → Bool) (sc : SCs) (s k : Nat) : Option (Nat × Nat × Nat) := sc.2.find? (fun e => Nat.beq e.1 s && E e.2.1 k)
def scA (s k kd : Nat) (sc : SCs) : SCs := (sc.1, sc.2 ++ [(s, k, kd)])
def scB (E : Nat → Nat → Bool) (s k : Nat) (sc : SCs) : SCs := if s = 0 then sc else match scF E sc s k with
  | some _ => sc
  | none => scA s k 0 sc
def scU (E : Nat → Nat → Bool) (s k : Nat) (sc : SCs) : SCs := (sc.1, sc.2.map (fun e => if (Nat.beq e.1 s && E e.2.1 k) = true then (e.1, e.2.1, 2) else e))
def scG (E : Nat → Nat → Bool) (s k : Nat) (sc : SCs) : Option SCs := match scF E sc s k with
  | none => some (scA s k 2 sc)
  | some e => if e.2.2 = 1 then none else some (scU E s k sc)
def scP (E : Nat → Nat → Bool) (s k : Nat) (sc : SCs) : Option SCs := match scF E sc s k with
  | some _ => none
  | none => some (scA s k 1 sc)
/-- the last step of a target does something else with it -/
def rtl (a b c : Nat) (os : List Op) : List Op := os.dropLast ++ match os.getLast? with
  | some o => [((if o.1 = 18 then a else if o.1 = 39 then b else c), o.2)]
  | none => []
def chO (k : Nat) : Nat := if k = 23 then 27 else if k = 24 then 28 else if k = 25 then 29 else 0
/-- breaks become jumps to ce, re -/
def rsv (K : Nat → Nat) (ce re : Nat) : Nat → Nat → List Op → List Op
  | _, _, [] => []
  | c, r, o :: l => (if o.1 = 60 then (4, [], (ce : Int) - c, (re : Int) - (r + 1)) else o) :: rsv K ce re (c + lC o) (r + lR K o) l
def gvI (E : Nat → Nat → Bool) (at' : List Nat) (k : Nat) : Option Nat := at'.findIdx? (fun j => E j k)
/-- a value on the stack becomes an attribute -/
def gvO (E : Nat → Nat → Bool) (at' : List Nat) (k : Nat) : List Op := match gvI E at' k with
  | some i => if i < 40 then [(24, [min at'.length 40 - i, at'.length - i], 0, 0)] else [(15, [8, 1], 0, 0), (61, [1], 0, 0)]
  | none => if 40 ≤ at'.length then [(15, [8], 0, 0)] else []
def gvA (E : Nat → Nat → Bool) (at' : List Nat) (k : Nat) : List Nat := match gvI E at' k with
  | some _ => at'
  | none => at' ++ [k]
section
variable (K L I : Nat → Nat) (E : Nat → Nat → Bool) (R : RsT)
def ln (l k : Nat) (os : List Op) (sc : SCs) (at' : List Nat) : PSr := if K k = 2 then .inr (k + 1, os, sc, at') else .inl l
def scT (s g k : Nat) (sc : SCs) : SCs := if g = 1 then scB E s k sc else sc
def psBind (s : Nat) (sc : SCs) (at' : List Nat) (k : Nat) : PSr :=
  pb (L k) (exs K s k) fun r =>
    if K r.1 = 19 then
      (if r.2.1 = 0 then .inl (L k) else pb (L k) (exs K s (r.1 + 1)) fun q => ln K (L k) q.1 (q.2.2 ++ rtl 19 41 46 r.2.2) (scT E s r.2.1 (r.1 - 1) sc) at')
    else if chO (K r.1) = 0 then ln K (L k) r.1 (r.2.2 ++ [(17, [], 0, 0)]) sc at'
    else if r.2.1 = 0 then .inl (L k)
    else pb (L k) (exs K s (r.1 + 1)) fun q => ln K (L k) q.1 (rtl 18 40 45 r.2.2 ++ (q.2.2 ++ [(chO (K r.1), [K r.1], 0, 0), (if r.2.1 = 1 then (19, [r.1 - 1, s], 0, 0) else if r.2.1 = 2 then (42, [], 0, 0) else (47, [r.1 - 1], 0, 0))])) (scT E s r.2.1 (r.1 - 1) sc) at'
def psDel (s : Nat) (sc : SCs) (at' : List Nat) (k : Nat) : PSr :=
  pb (L k) (exs K s (k + 1)) fun r => if r.2.1 = 0 then .inl (L k) else ln K (L k) r.1 (rtl 20 43 48 r.2.2) (scT E s r.2.1 (r.1 - 1) sc) at'
def psRet (s : Nat) (sc : SCs) (at' : List Nat) (k : Nat) : PSr :=
  if s = 0 then .inl (L k)
  else if K (k + 1) = 2 then .inr (k + 2, [(63, [], 0, 0), (8, [], 0, 0)], sc, at')
  else pb (L k) (exs K s (k + 1)) fun r => ln K (L k) r.1 (r.2.2 ++ [(8, [], 0, 0)]) sc at'
def psRse (s : Nat) (sc : SCs) (at' : List Nat) (k : Nat) : PSr := pb (L k) (exs K s (k + 1)) fun r => ln K (L k) r.1 (r.2.2 ++ [(14, [], 0, 0)]) sc at'
def untr (tr tl : Nat) : List Op := if tl < tr then [(13, [tr - tl], 0, 0)] else []
def psLv (lp : LpT) (tr ca ra : Nat) (brk : Bool) (sc : SCs) (at' : List Nat) (k : Nat) : PSr := match lp with
  | none => .inl (L k)
  | some x => ln K (L k) (k + 1) (untr tr x.2.2 ++ [if brk = true then (60, [], 0, 0) else (4, [], (x.1 : Int) - (ca + wC (untr tr x.2.2) : Nat), (x.2.1 : Int) - ((ra + wR K (untr tr x.2.2) : Nat) + 1))]) sc at'
def psGl (l s : Nat) (at' : List Nat) : Nat → SCs → Nat → PSr
  | 0, _, _ => .inl l
  | m + 1, sc, k => if K k = 3 then (match scG E s k sc with
      | none => .inl l
      | some sc1 => if K (k + 1) = 12 then psGl l s at' m sc1 (k + 2) else ln K l (k + 1) [] sc1 at') else .inl l
def psWh (dp ind s tr ca ra : Nat) (sc : SCs) (at' : List Nat) (k : Nat) : PSr :=
  pb (L k) (exs K s (k + 1)) fun r =>
    sb (R 2 (dp + 1) ind s (some (ca + 2, ra + 2, tr)) tr (ca + 4 + wC r.2.2 + 2) (ra + 4 + wR K r.2.2 + 2) sc at' r.1) fun b =>
      .inr (b.1, (4, [], 4, 3) :: (2, [L k], 0, 0) :: (r.2.2 ++ (5, [], ((4 + wC b.2.1 : Nat) : Int), ((3 + wR K b.2.1 : Nat) : Int)) :: (rsv K (ca + 4 + wC r.2.2 + 2 + wC b.2.1 + 2) (ra + 4 + wR K r.2.2 + 2 + wR K b.2.1 + 2) (ca + 4 + wC r.2.2 + 2) (ra + 4 + wR K r.2.2 + 2) b.2.1 ++ [(4, [], ((ca + 2 : Nat) : Int) - (ca + 4 + wC r.2.2 + 2 + wC b.2.1 : Nat), ((ra + 2 : Nat) : Int) - ((ra + 4 + wR K r.2.2 + 2 + wR K b.2.1 : Nat) + 1))])), b.2.2.1, at')
def psFor (dp ind s tr ca ra : Nat) (sc : SCs) (at' : List Nat) (k : Nat) : PSr :=
  if K (k + 1) = 3 ∧ K (k + 2) = 45 then pb (L k) (exs K s (k + 3)) fun r =>
    sb (R 2 (dp + 1) ind s (some (ca + wC r.2.2 + 3, ra + wR K r.2.2 + 3, tr)) tr (ca + wC r.2.2 + 10) (ra + wR K r.2.2 + 11) (scB E s (k + 1) sc) at' r.1) fun b =>
      .inr (b.1, r.2.2 ++ (9, [], 0, 0) :: (4, [], 4, 3) :: (2, [L k], 0, 0) :: (10, [], ((7 + wC b.2.1 : Nat) : Int), ((7 + wR K b.2.1 : Nat) : Int)) :: (19, [k + 1, s], 0, 0) :: (rsv K (ca + wC r.2.2 + 10 + wC b.2.1 + 2) (ra + wR K r.2.2 + 11 + wR K b.2.1 + 2) (ca + wC r.2.2 + 10) (ra + wR K r.2.2 + 11) b.2.1 ++ [(4, [], ((ca + wC r.2.2 + 3 : Nat) : Int) - (ca + wC r.2.2 + 10 + wC b.2.1 : Nat), ((ra + wR K r.2.2 + 3 : Nat) : Int) - ((ra + wR K r.2.2 + 11 + wR K b.2.1 : Nat) + 1)), (11, [], 0, 0)]), b.2.2.1, at')
  else .inl (L k)
/-- what begins an except's block -/
def exO (s k : Nat) : List Op := if K k = 3 then [(61, [], 0, 0), (19, [k, s], 0, 0)] else [(61, [], 0, 0), (17, [], 0, 0)]
def exK (k : Nat) : Nat := if K k = 3 then k + 1 else k
def exC (s k : Nat) (sc : SCs) : SCs := if K k = 3 then scB E s k sc else sc
def psTry (dp ind s : Nat) (lp : LpT) (tr ca ra : Nat) (sc : SCs) (at' : List Nat) (k : Nat) : PSr :=
  sb (R 2 (dp + 1) ind s lp (tr + 1) (ca + 2) (ra + 2) sc at' (k + 1)) fun b =>
    if K b.1 = 55 ∧ I b.1 = ind then
      sb (R 2 (dp + 1) ind s lp tr (ca + 2 + wC b.2.1 + 4 + wC (exO K s (b.1 + 1))) (ra + 2 + wR K b.2.1 + 3 + wR K (exO K s (b.1 + 1))) (exC K E s (b.1 + 1) b.2.2.1) at' (exK K (b.1 + 1))) fun e =>
        .inr (e.1, (12, [], ((6 + wC b.2.1 : Nat) : Int), ((4 + wR K b.2.1 : Nat) : Int)) :: (b.2.1 ++ (13, [1], 0, 0) :: (4, [], ((2 + (wC (exO K s (b.1 + 1)) + wC e.2.1) : Nat) : Int), ((1 + (wR K (exO K s (b.1 + 1)) + wR K e.2.1) : Nat) : Int)) :: (exO K s (b.1 + 1) ++ e.2.1)), e.2.2.1, at')
    else .inl (L b.1)
/-- parameters: c of them so far -/
def psPr (s : Nat) : Nat → Nat → SCs → Nat → Option (Nat × SCs × Nat)
  | 0, _, _, _ => none
  | m + 1, c, sc, k => if K k = 3 ∧ c < 8 then (match scP E s k sc with
      | none => none
      | some sc1 => if K (k + 1) = 12 then psPr s m (c + 1) sc1 (k + 2) else if K (k + 1) = 7 then some (k + 2, sc1, c + 1) else none) else none
def psPs (s : Nat) (sc : SCs) (k : Nat) : Option (Nat × SCs × Nat) := if K k = 7 then some (k + 1, sc, 0) else psPr K E s 20 0 sc k
/-- a function: all but its name's binding -/
def psDef (dp ind s ca ra : Nat) (sc : SCs) (at' : List Nat) (k : Nat) : PSr :=
  if K (k + 1) = 3 ∧ K (k + 2) = 6 then (match psPs K E sc.1.length (sc.1 ++ [(s, ca + 2, ra + 2, k + 1)], sc.2) (k + 3) with
    | none => .inl (L k)
    | some x => sb (R 2 (dp + 1) ind sc.1.length none 0 (ca + 2) (ra + 2) x.2.1 at' x.1) fun b =>
      .inr (b.1, (4, [], ((5 + wC b.2.1 : Nat) : Int), ((3 + wR K b.2.1 : Nat) : Int)) :: (b.2.1 ++ [(63, [], 0, 0), (8, [], 0, 0), (22, [sc.1.length - 1], 0, 0)]), b.2.2.1, at'))
  else .inl (L k)
def psDf (dp ind s ca ra : Nat) (sc : SCs) (at' : List Nat) (k : Nat) : PSr :=
  sb (psDef K L E R dp ind s ca ra sc at' k) fun x => .inr (x.1, x.2.1 ++ [(19, [k + 1, s], 0, 0)], scB E s (k + 1) x.2.2.1, at')
def clO (s k b : Nat) (at' : List Nat) : List Op := (3, [L k], 0, 0) :: ((if b = 1 then [(18, [k + 3, s], 0, 0)] else []) ++ [(23, (k + 1) :: b :: at'.take 40, 0, 0), (19, [k + 1, s], 0, 0)])
def psCl (dp ind s ca ra : Nat) (sc : SCs) (at' : List Nat) (k : Nat) : PSr :=
  if K (k + 1) = 3 then
    (if K (k + 2) = 6 then
      (if K (k + 3) = 3 ∧ K (k + 4) = 7 then sb (R 6 (dp + 1) ind s none 0 ca ra sc [] (k + 5)) fun b => .inr (b.1, b.2.1 ++ clO L s k 1 b.2.2.2, scB E s (k + 1) b.2.2.1, at') else .inl (L k))
    else sb (R 6 (dp + 1) ind s none 0 ca ra sc [] (k + 2)) fun b => .inr (b.1, b.2.1 ++ clO L s k 0 b.2.2.2, scB E s (k + 1) b.2.2.1, at'))
  else .inl (L k)
/-- a statement behind its first step -/
def psS0 (dp ind s : Nat) (lp : LpT) (tr ca ra : Nat) (sc : SCs) (at' : List Nat) (k : Nat) : PSr :=
  if K k = 40 then R 3 dp ind s lp tr ca ra sc at' k
  else if K k = 43 then psWh K L R dp ind s tr ca ra sc at' k
  else if K k = 44 then psFor K L E R dp ind s tr ca ra sc at' k
  else if K k = 46 then psDf K L E R dp ind s ca ra sc at' k
  else if K k = 47 then psCl K L E R dp ind s ca ra sc at' k
  else if K k = 54 then psTry K L I E R dp ind s lp tr ca ra sc at' k
  else if K k = 52 then psDel K L E s sc at' k
  else if K k = 48 then psRet K L s sc at' k
  else if K k = 56 then psRse K L s sc at' k
  else if K k = 51 then ln K (L k) (k + 1) [] sc at'
  else if K k = 49 then psLv K L lp tr ca ra true sc at' k
  else if K k = 50 then psLv K L lp tr ca ra false sc at' k
  else if K k = 53 then (if s = 0 then .inl (L k) else psGl K E (L k) s at' 6000 sc (k + 1))
  else psBind K L E s sc at' k
def psS (dp ind s : Nat) (lp : LpT) (tr ca ra : Nat) (sc : SCs) (at' : List Nat) (k : Nat) : PSr :=
  sb (psS0 K L I E R dp ind s lp tr (ca + 2) (ra + 2) sc at' k) fun x => .inr (x.1, (1, [L k], 0, 0) :: x.2.1, x.2.2.1, x.2.2.2)
/-- statements of one indent: u is the rule of one, t of more -/
def psQ (u t dp ind s : Nat) (lp : LpT) (tr ca ra : Nat) (sc : SCs) (at' : List Nat) (k : Nat) : PSr :=
  if K k = 1 ∨ I k < ind then .inr (k, [], sc, at')
  else if ind < I k then .inl (L k)
  else sb (R u dp ind s lp tr ca ra sc at' k) fun x => sb (R t dp ind s lp tr (ca + wC x.2.1) (ra + wR K x.2.1) x.2.2.1 x.2.2.2 x.1) fun y => .inr (y.1, x.2.1 ++ y.2.1, y.2.2.1, y.2.2.2)
/-- a block behind its head -/
def psB (t dp ind s : Nat) (lp : LpT) (tr ca ra : Nat) (sc : SCs) (at' : List Nat) (k : Nat) : PSr :=
  if K k ≠ 13 then .inl (L k)
  else if K (k + 1) ≠ 2 then .inl (L k)
  else if K (k + 2) = 1 ∨ I (k + 2) ≤ ind ∨ 10 < dp then .inl (L (k + 2))
  else R t dp (I (k + 2)) s lp tr ca ra sc at' (k + 2)
/-- if, elif -/
def psI (dp ind s : Nat) (lp : LpT) (tr ca ra : Nat) (sc : SCs) (at' : List Nat) (k : Nat) : PSr :=
  pb (L k) (exs K s (k + 1)) fun r =>
    sb (R 2 (dp + 1) ind s lp tr (ca + wC r.2.2 + 2) (ra + wR K r.2.2 + 2) sc at' r.1) fun b =>
      if (K b.1 = 41 ∨ K b.1 = 42) ∧ I b.1 = ind then
        sb (if K b.1 = 41 then R 3 dp ind s lp tr (ca + wC r.2.2 + 2 + wC b.2.1 + 2) (ra + wR K r.2.2 + 2 + wR K b.2.1 + 2) b.2.2.1 at' b.1 else R 2 (dp + 1) ind s lp tr (ca + wC r.2.2 + 2 + wC b.2.1 + 2) (ra + wR K r.2.2 + 2 + wR K b.2.1 + 2) b.2.2.1 at' (b.1 + 1)) fun e =>
          .inr (e.1, r.2.2 ++ (5, [], ((4 + wC b.2.1 : Nat) : Int), ((3 + wR K b.2.1 : Nat) : Int)) :: (b.2.1 ++ (4, [], ((2 + wC e.2.1 : Nat) : Int), ((1 + wR K e.2.1 : Nat) : Int)) :: e.2.1), e.2.2.1, at')
      else .inr (b.1, r.2.2 ++ (5, [], ((4 + wC b.2.1 : Nat) : Int), ((1 + wR K b.2.1 : Nat) : Int)) :: (b.2.1 ++ [(62, [], 2, 0)]), b.2.2.1, at')
/-- a statement of a class behind its first step -/
def psC0 (dp ind s ca ra : Nat) (sc : SCs) (at' : List Nat) (k : Nat) : PSr :=
  if K k = 46 then sb (psDef K L E R dp ind s ca ra sc at' k) fun x => .inr (x.1, x.2.1 ++ gvO E at' (k + 1), x.2.2.1, gvA E at' (k + 1))
  else if K k = 51 then ln K (L k) (k + 1) [] sc at'
  else if K k = 3 ∧ K (k + 1) = 19 then pb (L k) (exs K s (k + 2)) fun r => ln K (L k) r.1 (r.2.2 ++ gvO E at' k) sc (gvA E at' k)
  else .inl (L k)
def psC (dp ind s ca ra : Nat) (sc : SCs) (at' : List Nat) (k : Nat) : PSr :=
  sb (psC0 K L E R dp ind s (ca + 2) (ra + 2) sc at' k) fun x => .inr (x.1, (1, [L k], 0, 0) :: x.2.1, x.2.2.1, x.2.2.2)
def psR (t dp ind s : Nat) (lp : LpT) (tr ca ra : Nat) (sc : SCs) (at' : List Nat) (k : Nat) : PSr :=
  match t with
  | 0 => psS K L I E R dp ind s lp tr ca ra sc at' k
  | 1 => psQ K L I R 0 1 dp ind s lp tr ca ra sc at' k
  | 2 => psB K L I R 1 dp ind s lp tr ca ra sc at' k
  | 3 => psI K L I R dp ind s lp tr ca ra sc at' k
  | 4 => psQ K L I R 5 4 dp ind s lp tr ca ra sc at' k
  | 5 => psC K L E R dp ind s ca ra sc at' k
  | _ => psB K L I R 4 dp ind s lp tr ca ra sc at' k
end
def ps (K L I : Nat → Nat) (E : Nat → Nat → Bool) : Nat → RsT
  | 0 => fun _ _ _ _ _ _ _ _ _ _ k => .inl (L k)
  | f + 1 => psR K L I E (ps K L I E f)
/-- a whole text -/
def psT (K L I : Nat → Nat) (E : Nat → Nat → Bool) : PSr := sb (ps K L I E 60000 1 0 0 0 none 0 0 0 ([(0, 0, 0, 0)], []) [] 0) fun x => .inr (x.1, x.2.1 ++ [(0, [], 0, 0)], x.2.2.1, [])
