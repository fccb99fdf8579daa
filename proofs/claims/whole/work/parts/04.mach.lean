/-! THE MACHINE AS A FUNCTION, over cells of its own. A cell is an array (its element type's number in mt_el, its content) or an object (its class's number in mt_cl, its fields). A reference is a place in the list of cells;
what stood there before (texts, the script) is a retAddr: 2 k the text k, 2 k + 1 its bytes, 100000 the script, 100001 a JDK object, or null, that nobody looks into. -/
abbrev sm_C : Type := (Nat × vp_A) ⊕ (Nat × List Value)
abbrev sm_H : Type := List sm_C
abbrev sm_L : Type := List (Nat × Value)
/-- place, locals, stack, cells, how many fields and elements were made -/
abbrev sm_K : Type := Nat × sm_L × List Value × sm_H × Nat
/-- the answer, cells, made -/
abbrev sm_R : Type := Option Value × sm_H × Nat
/-- on; a call (method, values; then place, locals, stack behind it; cells, made); the end -/
abbrev sm_O : Type := sm_K ⊕ (Nat × List Value × Nat × sm_L × List Value × sm_H × Nat) ⊕ sm_R
/-- an entry of an owner's row of a table -/
def sm_at {α : Type} (tb : List (List (Nat × α))) (o k : Nat) : Option (Nat × α) := (tb.getD o []).find? (fun e => e.1 == k)
def sm_get (lv : sm_L) (i : Nat) : Option Value := (lv.find? (fun q => q.1 == i)).map (fun q => q.2)
def sm_p1 (lv : sm_L) (i : Nat) (v : Value) : sm_L := (i, v) :: lv.filter (fun q => !(q.1 == i) && !(q.1 + 1 == i && q.2.category == 2))
def sm_p2 (lv : sm_L) (i : Nat) (v : Value) : sm_L := (i, v) :: lv.filter (fun q => !(q.1 == i) && (!(q.1 == i + 1) && !(q.1 + 1 == i && q.2.category == 2)))
/-- stack alone: its length, the stack -/
def sm_ops (i : Instr) (st : List Value) : Option (Nat × List Value) := match i, st with
  | .nop, _ => none
  | .iconst c, r => some (1, .int (Int32.ofInt c) :: r)
  | .bipush c, r => some (2, .int (Int8.ofInt c).toInt32 :: r)
  | .sipush c, r => some (3, .int (Int16.ofInt c).toInt32 :: r)
  | .lconst c, r => some (1, .long (Int64.ofNat (c : Nat)) :: r)
  | .aconst_null, r => some (1, .null :: r)
  | .iadd, .int y :: .int x :: r => some (1, .int (x + y) :: r)
  | .isub, .int y :: .int x :: r => some (1, .int (x - y) :: r)
  | .imul, .int y :: .int x :: r => some (1, .int (x * y) :: r)
  | .iand, .int y :: .int x :: r => some (1, .int (x &&& y) :: r)
  | .ior, .int y :: .int x :: r => some (1, .int (x ||| y) :: r)
  | .idiv, .int y :: .int x :: r => if y = 0 then none else some (1, .int (x / y) :: r)
  | .irem, .int y :: .int x :: r => if y = 0 then none else some (1, .int (x - x / y * y) :: r)
  | .ineg, .int x :: r => some (1, .int (-x) :: r)
  | .ishl, .int y :: .int x :: r => some (1, .int (x <<< (y &&& 31)) :: r)
  | .ishr, .int y :: .int x :: r => some (1, .int (x >>> (y &&& 31)) :: r)
  | .iushr, .int y :: .int x :: r => some (1, .int (x.toUInt32 >>> (y.toUInt32 &&& Int32.toUInt32 31)).toInt32 :: r)
  | .ladd, .long y :: .long x :: r => some (1, .long (x + y) :: r)
  | .lsub, .long y :: .long x :: r => some (1, .long (x - y) :: r)
  | .lmul, .long y :: .long x :: r => some (1, .long (x * y) :: r)
  | .land, .long y :: .long x :: r => some (1, .long (x &&& y) :: r)
  | .lor, .long y :: .long x :: r => some (1, .long (x ||| y) :: r)
  | .lxor, .long y :: .long x :: r => some (1, .long (x ^^^ y) :: r)
  | .ldiv, .long y :: .long x :: r => if y = 0 then none else some (1, .long (x / y) :: r)
  | .lrem, .long y :: .long x :: r => if y = 0 then none else some (1, .long (x - x / y * y) :: r)
  | .lneg, .long x :: r => some (1, .long (-x) :: r)
  | .lshl, .int y :: .long x :: r => some (1, .long (x <<< (y.toInt64 &&& 63)) :: r)
  | .lshr, .int y :: .long x :: r => some (1, .long (x >>> (y.toInt64 &&& 63)) :: r)
  | .lushr, .int y :: .long x :: r => some (1, .long (x.toUInt64 >>> (y.toInt64.toUInt64 &&& Int64.toUInt64 63)).toInt64 :: r)
  | .lcmp, .long y :: .long x :: r => some (1, .int (lg_cmp x y) :: r)
  | .i2l, .int x :: r => some (1, .long x.toInt64 :: r)
  | .l2i, .long x :: r => some (1, .int x.toInt32 :: r)
  | .i2b, .int x :: r => some (1, .int x.toInt8.toInt32 :: r)
  | .i2c, .int x :: r => some (1, .int (x.toUInt32 % 65536).toInt32 :: r)
  | .dup, v :: r => if v.category = 1 then some (1, v :: v :: r) else none
  | .pop, v :: r => if v.category = 1 then some (1, r) else none
  | .dup2, v :: w :: r => if v.category = 1 ∧ w.category = 1 then some (1, v :: w :: v :: w :: r) else none
  | .dup_x1, v :: w :: r => if v.category = 1 ∧ w.category = 1 then some (1, v :: w :: v :: r) else none
  | _, _ => none
/-- locals: length, locals, stack -/
def sm_loc (nL : Nat) (i : Instr) (lv : sm_L) (st : List Value) : Option (Nat × sm_L × List Value) := match i, st with
  | .iload_n k, r => match sm_get lv k with
    | some (.int x) => some (1, lv, .int x :: r)
    | _ => none
  | .iload k, r => match sm_get lv k with
    | some (.int x) => some (2, lv, .int x :: r)
    | _ => none
  | .lload_n k, r => match sm_get lv k with
    | some (.long x) => some (1, lv, .long x :: r)
    | _ => none
  | .lload k, r => match sm_get lv k with
    | some (.long x) => some (2, lv, .long x :: r)
    | _ => none
  | .aload_n k, r => match sm_get lv k with
    | some (.ref x) => some (1, lv, .ref x :: r)
    | some (.retAddr x) => if x = 100001 then none else some (1, lv, .retAddr x :: r)
    | some .null => some (1, lv, .null :: r)
    | _ => none
  | .aload k, r => match sm_get lv k with
    | some (.ref x) => some (2, lv, .ref x :: r)
    | some (.retAddr x) => if x = 100001 then none else some (2, lv, .retAddr x :: r)
    | some .null => some (2, lv, .null :: r)
    | _ => none
  | .istore_n k, .int x :: r => if (k : Nat) < nL then some (1, sm_p1 lv k (.int x), r) else none
  | .istore k, .int x :: r => if k < nL then some (2, sm_p1 lv k (.int x), r) else none
  | .lstore_n k, .long x :: r => if (k : Nat) + 1 < nL then some (1, sm_p2 lv k (.long x), r) else none
  | .lstore k, .long x :: r => if k + 1 < nL then some (2, sm_p2 lv k (.long x), r) else none
  | .astore_n k, .ref x :: r => if (k : Nat) < nL then some (1, sm_p1 lv k (.ref x), r) else none
  | .astore_n k, .retAddr x :: r => if (k : Nat) < nL ∧ x ≠ 100001 then some (1, sm_p1 lv k (.retAddr x), r) else none
  | .astore_n k, .null :: r => if (k : Nat) < nL then some (1, sm_p1 lv k .null, r) else none
  | .astore k, .ref x :: r => if k < nL then some (2, sm_p1 lv k (.ref x), r) else none
  | .astore k, .retAddr x :: r => if k < nL ∧ x ≠ 100001 then some (2, sm_p1 lv k (.retAddr x), r) else none
  | .astore k, .null :: r => if k < nL then some (2, sm_p1 lv k .null, r) else none
  | .iinc k n, r => match sm_get lv k with
    | some (.int x) => if k < nL then some (3, sm_p1 lv k (.int (x + Int32.ofInt n)), r) else none
    | _ => none
  | _, _ => none
/-- a jump's aim -/
def sm_tg (pc : Nat) (off : Int) : Option Nat := match (pc : Int) + off with
  | .ofNat t => some t
  | .negSucc _ => none
def sm_sorted (ps : Array (Int × Int)) : Bool := (ps.toList.zip (ps.toList.drop 1)).all (fun (a, next) => a.1 < next.1)
/-- a condition on one int, on two -/
def sm_c1 {α : Type} (c : Jvm.ClassFile.Cond) (x : Int32) (a b : α) : α := match c with
  | .eq => if x = 0 then a else b
  | .ne => if x = 0 then b else a
  | .lt => if x < 0 then a else b
  | .ge => if 0 ≤ x then a else b
  | .gt => if 0 < x then a else b
  | .le => if x ≤ 0 then a else b
def sm_c2 {α : Type} (c : Jvm.ClassFile.Cond) (x y : Int32) (a b : α) : α := match c with
  | .eq => if x = y then a else b
  | .ne => if x = y then b else a
  | .lt => if x < y then a else b
  | .ge => if y ≤ x then a else b
  | .gt => if y < x then a else b
  | .le => if x ≤ y then a else b
/-- branches: the next place, the stack -/
def sm_br (i : Instr) (n pc : Nat) (st : List Value) : Option (Nat × List Value) := match i, st with
  | .goto off, r => if n = 3 then (sm_tg pc off).map (fun t => (t, r)) else none
  | .ifCond c off, .int x :: r => if n = 3 then (sm_tg pc off).map (fun t => (sm_c1 c x t (pc + 3), r)) else none
  | .if_icmp c off, .int y :: .int x :: r => if n = 3 then (sm_tg pc off).map (fun t => (sm_c2 c x y t (pc + 3), r)) else none
  | .ifnull _, .ref _ :: r => if n = 3 then some (pc + 3, r) else none
  | .ifnull off, .null :: r => if n = 3 then (sm_tg pc off).map (fun t => (t, r)) else none
  | .ifnonnull off, .ref _ :: r => if n = 3 then (sm_tg pc off).map (fun t => (t, r)) else none
  | .ifnonnull _, .null :: r => if n = 3 then some (pc + 3, r) else none
  | .lookupswitch d ps, .int x :: r => if sm_sorted ps = true then (sm_tg pc (Op.lookupswitch.offset ps.toList d x.toInt)).map (fun t => (t, r)) else none
  | .tableswitch d lo hi offs, .int x :: r =>
    if x.toInt < lo ∨ hi < x.toInt then (sm_tg pc d).map (fun t => (t, r))
    else match offs[(x.toInt - lo).toNat]? with
      | some off => (sm_tg pc off).map (fun t => (t, r))
      | none => none
  | _, _ => none
/-- does a value fit a field of this type -/
def sm_fit (ty : FieldType) (v : Value) : Bool := match ty, v with
  | .int, .int _ => true
  | .long, .long _ => true
  | .boolean, .int x => x == 0 || x == 1
  | .object _, .ref _ => true
  | .object _, .null => true
  | .array _, .ref _ => true
  | .array _, .null => true
  | _, _ => false
/-- reads and constants: length, stack; X: the script, its length and ints; none: it may not be looked at -/
def sm_rd (X : Option (Nat × (Nat → Int32))) (o : Nat) (i : Instr) (st : List Value) (h : sm_H) : Option (Nat × List Value) := match i, st with
  | .getfield k, .ref a :: r => match sm_at mt_f o k with
    | some (_, ci, fk, _) => match h[a]? with
      | some (.inr (c, fs)) => if c = ci then (fs[fk]?).map (fun v => (3, v :: r)) else none
      | _ => none
    | none => none
  | .iaload, .int j :: .ref a :: r => match h[a]? with
    | some (.inl (t, n, .inl f)) => if t = 0 then (if j < 0 ∨ n ≤ j.toNatClampNeg then none else some (1, .int (f j.toNatClampNeg) :: r)) else none
    | _ => none
  | .laload, .int j :: .ref a :: r => match h[a]? with
    | some (.inl (t, n, .inr (.inl f))) => if t = 1 then (if j < 0 ∨ n ≤ j.toNatClampNeg then none else some (1, .long (f j.toNatClampNeg) :: r)) else none
    | _ => none
  | .baload, .int j :: .ref a :: r => match h[a]? with
    | some (.inl (t, n, .inl f)) => if t = 2 ∨ t = 3 then (if j < 0 ∨ n ≤ j.toNatClampNeg then none else some (1, .int (f j.toNatClampNeg) :: r)) else none
    | _ => none
  | .aaload, .int j :: .ref a :: r => match h[a]? with
    | some (.inl (t, n, .inr (.inr (.inr (.inr f))))) => if 4 ≤ t ∧ t < mt_el.length then (if j < 0 ∨ n ≤ j.toNatClampNeg then none else some (1, va_rf (f j.toNatClampNeg) :: r)) else none
    | _ => none
  | .arraylength, .ref a :: r => match h[a]? with
    | some (.inl (t, x)) => if t < mt_el.length then some (1, .int (Int32.ofNat x.1) :: r) else none
    | _ => none
  | .ldc k, r => match sm_at mt_ci o k with
    | some (_, v, _) => some (2, .int v :: r)
    | none => match sm_at mt_cs o k with
      | some (_, q, _) => some (2, .retAddr (2 * q) :: r)
      | none => none
  | .ldc_w k, r => match sm_at mt_ci o k with
    | some (_, v, _) => some (3, .int v :: r)
    | none => match sm_at mt_cs o k with
      | some (_, q, _) => some (3, .retAddr (2 * q) :: r)
      | none => none
  | .ldc2_w k, r => match sm_at mt_cj o k with
    | some (_, v, _) => some (3, .long v :: r)
    | none => none
  | .getstatic k, r => match sm_at mt_gs o k with
    | some (_, v, _) => some (3, v :: r)
    | none => none
  | .getfield k, .retAddr q :: r => match sm_at mt_xs o k with
    | some (_, 0, _) => if q % 2 = 0 ∧ q < 2 * mt_sb.length then some (3, .retAddr (q + 1) :: r) else none
    | some (_, 1, _) => if q % 2 = 0 ∧ q < 2 * mt_sb.length then some (3, .int 0 :: r) else none
    | _ => none
  | .arraylength, .retAddr q :: r =>
    if q = 100000 then (match X with
      | some X => some (1, .int (Int32.ofNat X.1) :: r)
      | none => none)
    else if q % 2 = 1 ∧ q < 2 * mt_sb.length then some (1, .int (Int32.ofNat (mt_sb.getD (q / 2) []).length) :: r) else none
  | .baload, .int j :: .retAddr q :: r =>
    if q % 2 = 1 ∧ q < 2 * mt_sb.length then (if j < 0 ∨ (mt_sb.getD (q / 2) []).length ≤ j.toNatClampNeg then none else some (1, .int ((mt_sb.getD (q / 2) []).getD j.toNatClampNeg 0) :: r)) else none
  | .iaload, .int j :: .retAddr q :: r =>
    if q = 100000 then (match X with
      | some X => if j < 0 ∨ X.1 ≤ j.toNatClampNeg then none else some (1, .int (X.2 j.toNatClampNeg) :: r)
      | none => none) else none
  | _, _ => none
/-- writes: length, stack, cells ('ini': in a constructor) -/
def sm_wr (o : Nat) (ini : Bool) (i : Instr) (st : List Value) (h : sm_H) : Option (Nat × List Value × sm_H) := match i, st with
  | .putfield k, v :: .ref a :: r => match sm_at mt_f o k with
    | some (_, ci, fk, ho, _) => match h[a]? with
      | some (.inr (c, fs)) => if c = ci ∧ fk < (sm_T ci).2.2 ∧ fk < fs.length ∧ sm_fit (sm_ty ci fk) v = true ∧ (((sm_T ci).2.1 fk).2.2.2 = true → ini = true ∧ ho = 0 ∧ ((sm_T ci).2.1 fk).1 = sm_on o)
          then some (3, r, h.set a (.inr (c, fs.set fk v))) else none
      | _ => none
    | none => none
  | .iastore, .int x :: .int j :: .ref a :: r => match h[a]? with
    | some (.inl (t, n, .inl f)) => if t = 0 then (if j < 0 ∨ n ≤ j.toNatClampNeg then none else some (1, r, h.set a (.inl (t, n, .inl (upd f j.toNatClampNeg x))))) else none
    | _ => none
  | .lastore, .long x :: .int j :: .ref a :: r => match h[a]? with
    | some (.inl (t, n, .inr (.inl f))) => if t = 1 then (if j < 0 ∨ n ≤ j.toNatClampNeg then none else some (1, r, h.set a (.inl (t, n, .inr (.inl (vp_updL f j.toNatClampNeg x)))))) else none
    | _ => none
  | .bastore, .int x :: .int j :: .ref a :: r => match h[a]? with
    | some (.inl (t, n, .inl f)) =>
      if t = 2 then (if j < 0 ∨ n ≤ j.toNatClampNeg then none else some (1, r, h.set a (.inl (t, n, .inl (upd f j.toNatClampNeg (vp_nar .byte x))))))
      else if t = 3 then (if j < 0 ∨ n ≤ j.toNatClampNeg then none else some (1, r, h.set a (.inl (t, n, .inl (upd f j.toNatClampNeg (vp_nar .boolean x))))))
      else none
    | _ => none
  | .aastore, .ref q :: .int j :: .ref a :: r => match h[a]?, h[q]? with
    | some (.inl (t, n, .inr (.inr (.inr (.inr f))))), some (.inr (c, _)) =>
      if t < mt_el.length ∧ sm_el t = .object (sm_T c).1 ∧ c < mt_cl.length then (if j < 0 ∨ n ≤ j.toNatClampNeg then none else some (1, r, h.set a (.inl (t, n, .inr (.inr (.inr (.inr (va_up f j.toNatClampNeg (some q)))))))))  else none
    | some (.inl (t, n, .inr (.inr (.inr (.inr f))))), some (.inl (1, _)) =>
      if t < mt_el.length ∧ sm_el t = .array .long then (if j < 0 ∨ n ≤ j.toNatClampNeg then none else some (1, r, h.set a (.inl (t, n, .inr (.inr (.inr (.inr (va_up f j.toNatClampNeg (some q))))))))) else none
    | _, _ => none
  | _, _ => none
/-- what a class's new object holds -/
def sm_new (ci : Nat) : List Value := (List.range (sm_T ci).2.2).map (fun k => defaultValue (sm_ty ci k))
def sm_newt (t : ArrayType) : Option Nat := match t with
  | .int => some 0
  | .long => some 1
  | .byte => some 2
  | .boolean => some 3
  | _ => none
/-- what is made: length, stack, cells, made -/
def sm_mk (o : Nat) (i : Instr) (st : List Value) (h : sm_H) (u : Nat) : Option (Nat × List Value × sm_H × Nat) := match i, st with
  | .new k, r => match sm_at mt_n o k with
    | some (_, ci, _) => some (3, .ref h.length :: r, h ++ [.inr (ci, sm_new ci)], u + (sm_T ci).2.2)
    | none => none
  | .newarray t, .int n :: r => match sm_newt t with
    | some t => if n < 0 ∨ 67108864 < n.toNatClampNeg then none else
        some (2, .ref h.length :: r, h ++ [.inl (t, n.toNatClampNeg, if t = 1 then .inr (.inl (fun _ => 0)) else .inl (fun _ => 0))], u + n.toNatClampNeg)
    | none => none
  | .anewarray k, .int n :: r => match sm_at mt_a o k with
    | some (_, t, _) => if n < 0 ∨ 67108864 < n.toNatClampNeg then none else
        some (3, .ref h.length :: r, h ++ [.inl (t, n.toNatClampNeg, .inr (.inr (.inr (.inr (fun _ => none)))))], u + n.toNatClampNeg)
    | none => none
  | _, _ => none
/-- arraycopy over two arrays of one type -/
def sm_cpy (st : List Value) (h : sm_H) : Option (List Value × sm_H) := match st with
  | .int n :: .int dp :: .ref a :: .int sp :: .ref a0 :: r =>
    if sp < 0 ∨ dp < 0 ∨ n < 0 ∨ 8 < (r.map fun v => v.category).sum then none else
    match h[a0]?, h[a]? with
    | some (.inl (0, n0, .inl f)), some (.inl (0, n1, .inl g)) =>
      if sp.toNatClampNeg + n.toNatClampNeg ≤ n0 ∧ dp.toNatClampNeg + n.toNatClampNeg ≤ n1 then
        some (r, h.set a (.inl (0, n1, .inl (va_cpy f g sp.toNatClampNeg dp.toNatClampNeg n.toNatClampNeg)))) else none
    | some (.inl (2, n0, .inl f)), some (.inl (2, n1, .inl g)) =>
      if sp.toNatClampNeg + n.toNatClampNeg ≤ n0 ∧ dp.toNatClampNeg + n.toNatClampNeg ≤ n1 ∧ (∀ i, i < n.toNatClampNeg → fits .byte (.int (f (sp.toNatClampNeg + i))) = true) then
        some (r, h.set a (.inl (2, n1, .inl (va_cpy f g sp.toNatClampNeg dp.toNatClampNeg n.toNatClampNeg)))) else none
    | some (.inl (1, n0, .inr (.inl f))), some (.inl (1, n1, .inr (.inl g))) =>
      if sp.toNatClampNeg + n.toNatClampNeg ≤ n0 ∧ dp.toNatClampNeg + n.toNatClampNeg ≤ n1 then
        some (r, h.set a (.inl (1, n1, .inr (.inl (va_cpy f g sp.toNatClampNeg dp.toNatClampNeg n.toNatClampNeg))))) else none
    | _, _ => none
  | _ => none
/-- natives and Object(): length, stack, cells -/
def sm_na (o : Nat) (i : Instr) (st : List Value) (h : sm_H) : Option (Nat × List Value × sm_H) := match i, st with
  | .invokespecial k, .ref a :: r => match sm_at mt_k o k with
    | some (_, 6, _) => if (r.map fun v => v.category).sum ≤ 8 then some (3, r, h) else none
    | _ => none
  | .invokestatic k, r => match sm_at mt_k o k with
    | some (_, 7, _) => (sm_cpy r h).map (fun q => (3, q))
    | _ => none
  | _, _ => none
/-- a call: the method, its values, the stack behind it -/
def sm_cl (o : Nat) (i : Instr) (st : List Value) (h : sm_H) : Option (Nat × List Value × List Value) := match i with
  | .invokevirtual k => match sm_at mt_k o k with
    | some (_, kd, j, _) => if kd = 0 ∨ kd = 1 then (match st.drop (sm_np j) with
      | .ref a :: r => match h[a]? with
        | some (.inr (c, _)) => if c = sm_ow j ∧ c < mt_cl.length ∧ (r.map fun v => v.category).sum ≤ 8 then some (j, .ref a :: (st.take (sm_np j)).reverse, r) else none
        | _ => none
      | .retAddr q :: r => if q % 2 = 0 ∧ q < 2 * mt_sb.length ∧ sm_ow j = mt_so ∧ (r.map fun v => v.category).sum ≤ 8 then some (j, .retAddr q :: (st.take (sm_np j)).reverse, r) else none
      | _ => none) else none
    | none => none
  | .invokespecial k => match sm_at mt_k o k with
    | some (_, kd, j, _) => if kd = 4 ∨ kd = 5 then (match st.drop (sm_np j) with
      | .ref a :: r => if (r.map fun v => v.category).sum ≤ 8 then some (j, .ref a :: (st.take (sm_np j)).reverse, r) else none
      | _ => none) else none
    | none => none
  | .invokestatic k => match sm_at mt_k o k with
    | some (_, kd, j, _) => if (kd = 2 ∨ kd = 3) ∧ sm_np j ≤ st.length ∧ ((st.drop (sm_np j)).map fun v => v.category).sum ≤ 8 then some (j, (st.take (sm_np j)).reverse, st.drop (sm_np j)) else none
    | none => none
  | _ => none
/-- an end: the answer -/
def sm_end (rt : Option FieldType) (i : Instr) (st : List Value) : Option (Option Value) := match i, st with
  | .ireturn, [.int x] => match rt with
    | some .int => some (some (.int x))
    | some .boolean => if x = 0 ∨ x = 1 then some (some (.int x)) else none
    | some .char => if narrow .char (.int x) = .int x then some (some (.int x)) else none
    | some .byte => if narrow .byte (.int x) = .int x then some (some (.int x)) else none
    | _ => none
  | .lreturn, [.long x] => match rt with
    | some .long => some (some (.long x))
    | _ => none
  | .areturn, [v] => match rt, v with
    | some (.object _), .ref a => some (some (.ref a))
    | some (.object _), .null => some (some .null)
    | some (.object _), .retAddr a => if a = 100001 then none else some (some (.retAddr a))
    | some (.array _), .ref a => some (some (.ref a))
    | some (.array _), .null => some (some .null)
    | _, _ => none
  | .return_, [] => match rt with
    | none => some none
    | _ => none
  | _, _ => none
def sm_ini (j : Nat) : Bool := (sm_y j).name == "<init>"
/-- one instruction of method j, n bytes long -/
def sm_do (X : Option (Nat × (Nat → Int32))) (j : Nat) (i : Instr) (n pc : Nat) (lv : sm_L) (st : List Value) (h : sm_H) (u : Nat) : Option sm_O :=
  match sm_ops i st with
  | some (k, st1) => if k = n then some (.inl (pc + n, lv, st1, h, u)) else none
  | none => match sm_loc (sm_ml j) i lv st with
  | some (k, lv1, st1) => if k = n then some (.inl (pc + n, lv1, st1, h, u)) else none
  | none => match sm_br i n pc st with
  | some (pc1, st1) => some (.inl (pc1, lv, st1, h, u))
  | none => match sm_rd X (sm_ow j) i st h with
  | some (k, st1) => if k = n then some (.inl (pc + n, lv, st1, h, u)) else none
  | none => match sm_wr (sm_ow j) (sm_ini j) i st h with
  | some (k, st1, h1) => if k = n then some (.inl (pc + n, lv, st1, h1, u)) else none
  | none => match sm_mk (sm_ow j) i st h u with
  | some (k, st1, h1, u1) => if k = n then some (.inl (pc + n, lv, st1, h1, u1)) else none
  | none => match sm_na (sm_ow j) i st h with
  | some (k, st1, h1) => if k = n then some (.inl (pc + n, lv, st1, h1, u)) else none
  | none => match sm_cl (sm_ow j) i st h with
  | some (j1, as, r) => if n = 3 then some (.inr (.inl (j1, as, pc + 3, lv, r, h, u))) else none
  | none => match sm_end (sm_rt j) i st with
  | some v => if n = 1 then some (.inr (.inr (v, h, u))) else none
  | none => none
def sm_step (X : Option (Nat × (Nat → Int32))) (j : Nat) (K : sm_K) : Option sm_O := match decode (sm_cc j) K.1 with
  | .ok (i, n) => sm_do X j i n K.1 K.2.1 K.2.2.1 K.2.2.2.1 K.2.2.2.2
  | .error _ => none
/-- a method's body from a place on, its calls by 'cal', at most n instructions -/
def sm_run (X : Option (Nat × (Nat → Int32))) (cal : Nat → List Value → sm_H → Nat → Option sm_R) (j : Nat) : Nat → sm_K → Option sm_R
  | 0, _ => none
  | n + 1, K => match sm_step X j K with
    | none => none
    | some (.inl K1) => sm_run X cal j n K1
    | some (.inr (.inl (j1, as, pc, lv, r, h, u))) => match cal j1 as h u with
      | none => none
      | some (v, h1, u1) => sm_run X cal j n (pc, lv, v.toList ++ r, h1, u1)
    | some (.inr (.inr R)) => some R
/-- a call of method j: calls lie at most d deep -/
def sm_ev (X : Option (Nat × (Nat → Int32))) : Nat → Nat → Nat → List Value → sm_H → Nat → Option sm_R
  | 0, _, _, _, _, _ => none
  | d + 1, n, j, as, h, u => if (lg_sl as).length ≤ sm_ml j then sm_run X (sm_ev X d n) j n (0, lv_args 0 as, [], h, u) else none
