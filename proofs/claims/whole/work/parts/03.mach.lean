/-! THE ABSTRACT MACHINE: cells by number, typed contents, locals of which some are not known, one step a function; what its run says holds of the real one (05.sound). -/
/-- what a cell is: an array (its component type, its length) or an object (its class's number) -/
abbrev xSh : Type := (FieldType × Nat) ⊕ Nat
/-- a store: how many cells, how many fields and elements; what each is; the ints, the longs, the references (cells by number) in them -/
abbrev xSt : Type := (Nat × Nat) × (Nat → xSh) × (Nat → Nat → Int32) × (Nat → Nat → Int64) × (Nat → Nat → Option Nat)

abbrev xAL : Type := List (Option Value)
abbrev xRes : Type := Option (Option Value × xSt)
def xN (g : xSt) : Nat := g.1.1
def xU (g : xSt) : Nat := g.1.2
def xH (g : xSt) : Nat → xSh := g.2.1
def xI (g : xSt) : Nat → Nat → Int32 := g.2.2.1
def xL (g : xSt) : Nat → Nat → Int64 := g.2.2.2.1
def xR (g : xSt) : Nat → Nat → Option Nat := g.2.2.2.2
def x2 {α : Type} (f : Nat → Nat → α) (o k : Nat) (v : α) : Nat → Nat → α := fun a b => if a = o then (if b = k then v else f a b) else f a b
def xWI (g : xSt) (o k : Nat) (v : Int32) : xSt := (g.1, g.2.1, x2 g.2.2.1 o k v, g.2.2.2.1, g.2.2.2.2)
def xWL (g : xSt) (o k : Nat) (v : Int64) : xSt := (g.1, g.2.1, g.2.2.1, x2 g.2.2.2.1 o k v, g.2.2.2.2)
def xWR (g : xSt) (o k : Nat) (v : Option Nat) : xSt := (g.1, g.2.1, g.2.2.1, g.2.2.2.1, x2 g.2.2.2.2 o k v)
def xNew (g : xSt) (h : xSh) (n : Nat) : xSt :=
  ((g.1.1 + 1, g.1.2 + n), fun a => if a = g.1.1 then h else g.2.1 a, fun a b => if a = g.1.1 then 0 else g.2.2.1 a b, fun a b => if a = g.1.1 then 0 else g.2.2.2.1 a b, fun a b => if a = g.1.1 then none else g.2.2.2.2 a b)
/-- a field's or an element's value, by its type -/
def xFv (ty : FieldType) (g : xSt) (o k : Nat) : Value := match ty with
  | .long => .long (xL g o k)
  | .object _ => va_rf (xR g o k)
  | .array _ => va_rf (xR g o k)
  | _ => .int (xI g o k)
/-- writing a field: none if the value isn't of the type -/
def xFw (ty : FieldType) (g : xSt) (o k : Nat) (v : Value) : Option xSt := match ty with
  | .int => (match v with
    | .int x => some (xWI g o k x)
    | _ => none)
  | .boolean => (match v with
    | .int x => if x = 0 ∨ x = 1 then some (xWI g o k x) else none
    | _ => none)
  | .long => (match v with
    | .long x => some (xWL g o k x)
    | _ => none)
  | .object _ => (match v with
    | .ref a => some (xWR g o k (some a))
    | _ => none)
  | .array _ => (match v with
    | .ref a => some (xWR g o k (some a))
    | _ => none)
  | _ => none
/-- locals -/
def xLd (al : xAL) (i : Nat) : Option Value := match al[i]? with
  | some v => v
  | none => none
def xKill (al : xAL) (i : Nat) : xAL := match i with
  | 0 => al
  | k + 1 => (match al[k]? with
    | some (some (.long _)) => al.set k none
    | some (some (.double _)) => al.set k none
    | _ => al)
def xSet1 (al : xAL) (i : Nat) (v : Value) : xAL := (xKill al i).set i (some v)
def xSet2 (al : xAL) (i : Nat) (v : Value) : xAL := ((xKill al i).set i (some v)).set (i + 1) none
/-- the locals at a method's start -/
def xEnt : List Value → xAL
  | [] => []
  | .long v :: r => some (.long v) :: none :: xEnt r
  | .double v :: r => some (.double v) :: none :: xEnt r
  | v :: r => some v :: xEnt r
def xEntry (vs : List Value) (n : Nat) : xAL := xEnt vs ++ List.replicate (n - (xEnt vs).length) none
def xLdI (al : xAL) (st : List Value) (i : Nat) : Option (xAL × List Value) := match xLd al i with
  | some (.int x) => some (al, .int x :: st)
  | _ => none
def xLdL (al : xAL) (st : List Value) (i : Nat) : Option (xAL × List Value) := match xLd al i with
  | some (.long x) => some (al, .long x :: st)
  | _ => none
def xLdA (al : xAL) (st : List Value) (i : Nat) : Option (xAL × List Value) := match xLd al i with
  | some (.ref x) => some (al, .ref x :: st)
  | _ => none
def xStI (al : xAL) (st : List Value) (i : Nat) : Option (xAL × List Value) := match st with
  | .int x :: r => if i < al.length then some (xSet1 al i (.int x), r) else none
  | _ => none
def xStL (al : xAL) (st : List Value) (i : Nat) : Option (xAL × List Value) := match st with
  | .long x :: r => if i + 1 < al.length then some (xSet2 al i (.long x), r) else none
  | _ => none
def xStA (al : xAL) (st : List Value) (i : Nat) : Option (xAL × List Value) := match st with
  | .ref x :: r => if i < al.length then some (xSet1 al i (.ref x), r) else none
  | _ => none
/-- constants, locals and stack -/
def xOp1 (i : Instr) (al : xAL) (st : List Value) : Option (xAL × List Value) := match i with
  | .iconst k => some (al, .int (Int32.ofInt k) :: st)
  | .bipush k => some (al, .int (Int8.ofInt k).toInt32 :: st)
  | .sipush k => some (al, .int (Int16.ofInt k).toInt32 :: st)
  | .lconst k => some (al, .long (Int64.ofNat (k : Nat)) :: st)
  | .iload k => xLdI al st k
  | .iload_n k => xLdI al st k
  | .lload k => xLdL al st k
  | .lload_n k => xLdL al st k
  | .aload k => xLdA al st k
  | .aload_n k => xLdA al st k
  | .istore k => xStI al st k
  | .istore_n k => xStI al st k
  | .lstore k => xStL al st k
  | .lstore_n k => xStL al st k
  | .astore k => xStA al st k
  | .astore_n k => xStA al st k
  | .iinc k n => (match xLd al k with
    | some (.int x) => if k < al.length then some (xSet1 al k (.int (x + Int32.ofInt n)), st) else none
    | _ => none)
  | .dup => (match st with
    | v :: r => if v.category = 1 then some (al, v :: v :: r) else none
    | _ => none)
  | .dup2 => (match st with
    | v :: r => if v.category = 2 then some (al, v :: v :: r) else (match r with
      | w :: r => if v.category = 1 ∧ w.category = 1 then some (al, v :: w :: v :: w :: r) else none
      | _ => none)
    | _ => none)
  | .pop => (match st with
    | v :: r => if v.category = 1 then some (al, r) else none
    | _ => none)
  | _ => none
/-- sums of two ints, two longs, a long and an int; of one -/
def xBI (i : Instr) (x y : Int32) : Option Int32 := match i with
  | .iadd => some (x + y)
  | .isub => some (x - y)
  | .imul => some (x * y)
  | .iand => some (x &&& y)
  | .ior => some (x ||| y)
  | .ixor => some (x ^^^ y)
  | .ishl => some (x <<< (y &&& 31))
  | .ishr => some (x >>> (y &&& 31))
  | .iushr => some (x.toUInt32 >>> (y.toUInt32 &&& Int32.toUInt32 31)).toInt32
  | .idiv => if y = 0 then none else some (x / y)
  | .irem => if y = 0 then none else some (x - x / y * y)
  | _ => none
def xBL (i : Instr) (x y : Int64) : Option Int64 := match i with
  | .ladd => some (x + y)
  | .lsub => some (x - y)
  | .lmul => some (x * y)
  | .land => some (x &&& y)
  | .lor => some (x ||| y)
  | .lxor => some (x ^^^ y)
  | _ => none
def xBS (i : Instr) (x : Int64) (y : Int32) : Option Int64 := match i with
  | .lshl => some (x <<< (y.toInt64 &&& 63))
  | .lshr => some (x >>> (y.toInt64 &&& 63))
  | .lushr => some (x.toUInt64 >>> (y.toInt64.toUInt64 &&& Int64.toUInt64 63)).toInt64
  | _ => none
def xOp2 (i : Instr) (st : List Value) : Option (List Value) := match i with
  | .ineg => (match st with
    | .int y :: r => some (.int (-y) :: r)
    | _ => none)
  | .i2l => (match st with
    | .int y :: r => some (.long y.toInt64 :: r)
    | _ => none)
  | .i2b => (match st with
    | .int y :: r => some (.int y.toInt8.toInt32 :: r)
    | _ => none)
  | .l2i => (match st with
    | .long y :: r => some (.int y.toInt32 :: r)
    | _ => none)
  | .lneg => (match st with
    | .long y :: r => some (.long (-y) :: r)
    | _ => none)
  | .lcmp => (match st with
    | .long y :: .long x :: r => some (.int (lg_cmp x y) :: r)
    | _ => none)
  | _ => (match st with
    | .int y :: .int x :: r => (match xBI i x y with
      | some z => some (.int z :: r)
      | none => none)
    | .long y :: .long x :: r => (match xBL i x y with
      | some z => some (.long z :: r)
      | none => none)
    | .int y :: .long x :: r => (match xBS i x y with
      | some z => some (.long z :: r)
      | none => none)
    | _ => none)
/-- an array's cell, its type and length: of those that may be read (the script too) -/
def xAr (g : xSt) (o : Nat) (ty : FieldType) (j : Int32) : Bool := match xH g o with
  | .inl (t, n) => decide (t = ty) && (decide (o < xN g) && !(decide (j < 0) || decide (n ≤ j.toNatClampNeg)))
  | .inr _ => false
def xArS (g : xSt) (o : Nat) (j : Int32) : Bool := match xH g o with
  | .inl (t, n) => decide (t = .int) && (decide (o = 1000000) && !(decide (j < 0) || decide (n ≤ j.toNatClampNeg)))
  | .inr _ => false
def xIs (g : xSt) (o c : Nat) : Bool := decide (o < xN g) && decide (xH g o = .inr c)
/-- the types of arrays that may be made -/
def xTyOk (ty : FieldType) : Bool := match ty with
  | .int => true
  | .long => true
  | .byte => true
  | .boolean => true
  | _ => false
/-- what may be made -/
def xMay (g : xSt) : Bool := decide (xN g < 1000000)
/-- fields, arrays, making, constants (those of own, the class's number; ini: the method is a constructor) -/
def xHp (own : Nat) (ini : Bool) (i : Instr) (st : List Value) (g : xSt) : Option (List Value × xSt) := match i with
  | .getfield idx => (match xFld own idx, st with
    | some (c, k), .ref o :: r => if xIs g o c = true then some (xFv (xFt c k) g o k :: r, g) else none
    | _, _ => none)
  | .putfield idx => (match xFld own idx, st with
    | some (c, k), v :: .ref o :: r => if xIs g o c = true ∧ (xFin c k = true → ini = true ∧ own = c) then (match xFw (xFt c k) g o k v with
      | some g' => some (r, g')
      | none => none) else none
    | _, _ => none)
  | .iaload => (match st with
    | .int j :: .ref o :: r => if xAr g o .int j = true ∨ xArS g o j = true then some (.int (xI g o j.toNatClampNeg) :: r, g) else none
    | _ => none)
  | .baload => (match st with
    | .int j :: .ref o :: r => if xAr g o .byte j = true ∨ xAr g o .boolean j = true then some (.int (xI g o j.toNatClampNeg) :: r, g) else none
    | _ => none)
  | .laload => (match st with
    | .int j :: .ref o :: r => if xAr g o .long j = true then some (.long (xL g o j.toNatClampNeg) :: r, g) else none
    | _ => none)
  | .aaload => (match st with
    | .int j :: .ref o :: r => if xAr g o (.object RX0) j = true then some (va_rf (xR g o j.toNatClampNeg) :: r, g) else none
    | _ => none)
  | .iastore => (match st with
    | .int x :: .int j :: .ref o :: r => if xAr g o .int j = true then some (r, xWI g o j.toNatClampNeg x) else none
    | _ => none)
  | .bastore => (match st with
    | .int x :: .int j :: .ref o :: r => if xAr g o .byte j = true then some (r, xWI g o j.toNatClampNeg x.toInt8.toInt32) else if xAr g o .boolean j = true ∧ (x = 0 ∨ x = 1) then some (r, xWI g o j.toNatClampNeg x) else none
    | _ => none)
  | .lastore => (match st with
    | .long x :: .int j :: .ref o :: r => if xAr g o .long j = true then some (r, xWL g o j.toNatClampNeg x) else none
    | _ => none)
  | .aastore => (match st with
    | .ref x :: .int j :: .ref o :: r => if xAr g o (.object RX0) j = true ∧ xIs g x 0 = true then some (r, xWR g o j.toNatClampNeg (some x)) else none
    | _ => none)
  | .arraylength => (match st with
    | .ref o :: r => (match xH g o with
      | .inl (ty, n) => if (o < xN g ∧ (xTyOk ty = true ∨ ty = .object RX0)) ∨ (ty = .int ∧ o = 1000000) then some (.int (Int32.ofNat n) :: r, g) else none
      | .inr _ => none)
    | _ => none)
  | .newarray at_ => (match st with
    | .int n :: r => if xTyOk (newarray.typeOf at_) = true ∧ xMay g = true ∧ ¬ n < 0 ∧ n.toNatClampNeg ≤ 100000 then some (.ref (xN g) :: r, xNew g (.inl (newarray.typeOf at_, n.toNatClampNeg)) n.toNatClampNeg) else none
    | _ => none)
  | .anewarray idx => (match st with
    | .int n :: r => if xAnw own idx = true ∧ xMay g = true ∧ ¬ n < 0 ∧ n.toNatClampNeg ≤ 100000 then some (.ref (xN g) :: r, xNew g (.inl (.object RX0, n.toNatClampNeg)) n.toNatClampNeg) else none
    | _ => none)
  | .new idx => (match xNw own idx with
    | some c => if xMay g = true then some (.ref (xN g) :: st, xNew g (.inr c) (xNf c)) else none
    | none => none)
  | .ldc idx => (match xKI own idx with
    | some v => some (.int v :: st, g)
    | none => (match xKS own idx with
      | some j => some (.ref (1000001 + j) :: st, g)
      | none => none))
  | .ldc_w idx => (match xKI own idx with
    | some v => some (.int v :: st, g)
    | none => none)
  | .ldc2_w idx => (match xKL own idx with
    | some v => some (.long v :: st, g)
    | none => none)
  | .invokespecial idx => if xOb own idx = true then (match st with
    | .ref _ :: r => if (r.map fun v => v.category).sum ≤ 8 then some (r, g) else none
    | _ => none) else none
  | .invokestatic idx => (match xMm own idx with
    | some b => (match st with
      | .int y :: .int x :: r => if (r.map fun v => v.category).sum ≤ 8 then some (.int (if b = true then (if x < y then y else x) else if y < x then y else x) :: r, g) else none
      | _ => none)
    | none => if xPk own idx = true then (match st with
    | .ref a :: r => if 1000001 ≤ a ∧ a < 1000008 ∧ (r.map fun v => v.category).sum ≤ 8 then some (.long (xPv (a - 1000001)) :: r, g) else none
    | _ => none) else none)
  | _ => none
/-- jumps -/
def xJp (i : Instr) (len pc : Nat) (st : List Value) : Option (Nat × List Value) := match i with
  | .goto off => if len = 3 ∧ 0 ≤ (pc : Int) + off then some (((pc : Int) + off).toNat, st) else none
  | .ifCond cc off => (match st with
    | .int x :: r => if len = 3 ∧ 0 ≤ (pc : Int) + off then (match cc with
      | .eq => if x = 0 then some (((pc : Int) + off).toNat, r) else some (pc + 3, r)
      | .ne => if x = 0 then some (pc + 3, r) else some (((pc : Int) + off).toNat, r)
      | .lt => if x < 0 then some (((pc : Int) + off).toNat, r) else some (pc + 3, r)
      | .ge => if 0 ≤ x then some (((pc : Int) + off).toNat, r) else some (pc + 3, r)
      | .gt => if 0 < x then some (((pc : Int) + off).toNat, r) else some (pc + 3, r)
      | .le => if x ≤ 0 then some (((pc : Int) + off).toNat, r) else some (pc + 3, r)) else none
    | _ => none)
  | .if_icmp cc off => (match st with
    | .int y :: .int x :: r => if len = 3 ∧ 0 ≤ (pc : Int) + off then (match cc with
      | .eq => if x = y then some (((pc : Int) + off).toNat, r) else some (pc + 3, r)
      | .ne => if x = y then some (pc + 3, r) else some (((pc : Int) + off).toNat, r)
      | .lt => if x < y then some (((pc : Int) + off).toNat, r) else some (pc + 3, r)
      | .ge => if y ≤ x then some (((pc : Int) + off).toNat, r) else some (pc + 3, r)
      | .gt => if y < x then some (((pc : Int) + off).toNat, r) else some (pc + 3, r)
      | .le => if x ≤ y then some (((pc : Int) + off).toNat, r) else some (pc + 3, r)) else none
    | _ => none)
  | .tableswitch dflt lo hi offs => (match st with
    | .int x :: r => if x.toInt < lo ∨ hi < x.toInt then (if 0 ≤ (pc : Int) + dflt then some (((pc : Int) + dflt).toNat, r) else none) else (match offs[(x.toInt - lo).toNat]? with
      | some off => if 0 ≤ (pc : Int) + off then some (((pc : Int) + off).toNat, r) else none
      | none => none)
    | _ => none)
  | _ => none
def xLen : Instr → Nat
  | .iload _ => 2
  | .lload _ => 2
  | .aload _ => 2
  | .istore _ => 2
  | .lstore _ => 2
  | .astore _ => 2
  | .bipush _ => 2
  | .ldc _ => 2
  | .newarray _ => 2
  | .iinc _ _ => 3
  | .sipush _ => 3
  | .ldc_w _ => 3
  | .ldc2_w _ => 3
  | .getfield _ => 3
  | .putfield _ => 3
  | .new _ => 3
  | .anewarray _ => 3
  | .invokespecial _ => 3
  | .invokestatic _ => 3
  | _ => 1
/-- one step that is no call and no return -/
def xStep (y : xMI) (i : Instr) (len pc : Nat) (al : xAL) (st : List Value) (g : xSt) : Option (Nat × xAL × List Value × xSt) := match xJp i len pc st with
  | some (pc', st') => some (pc', al, st', g)
  | none => if len = xLen i then (match xOp1 i al st with
    | some (al', st') => some (pc + xLen i, al', st', g)
    | none => (match xOp2 i st with
      | some st' => some (pc + xLen i, al, st', g)
      | none => (match xHp y.2.2.2.2 (y.1.name == "<init>") i st g with
        | some (st', g') => some (pc + xLen i, al, st', g')
        | none => none))) else none
/-- a call: whom, with what, what is left on the stack -/
def xCall (own : Nat) (i : Instr) (len : Nat) (st : List Value) (g : xSt) : Option (xMI × List Value × List Value) := match i with
  | .invokestatic idx => (match xCl own idx with
    | some (0, y, n) => if len = 3 ∧ n ≤ st.length ∧ ((st.drop n).map fun v => v.category).sum ≤ 8 ∧ (xEnt (st.take n).reverse).length ≤ y.2.2.1 then some (y, (st.take n).reverse, st.drop n) else none
    | _ => none)
  | .invokespecial idx => (match xCl own idx with
    | some (kd, y, n) => (match st.drop n with
      | .ref o :: r => if (kd = 1 ∨ kd = 3) ∧ len = 3 ∧ n ≤ st.length ∧ xIs g o y.2.2.2.2 = true ∧ (r.map fun v => v.category).sum ≤ 8 ∧ (xEnt (.ref o :: (st.take n).reverse)).length ≤ y.2.2.1 then some (y, .ref o :: (st.take n).reverse, r) else none
      | _ => none)
    | _ => none)
  | .invokevirtual idx => (match xCl own idx with
    | some (2, y, n) => (match st.drop n with
      | .ref o :: r => if len = 3 ∧ n ≤ st.length ∧ xIs g o y.2.2.2.2 = true ∧ (r.map fun v => v.category).sum ≤ 8 ∧ (xEnt (.ref o :: (st.take n).reverse)).length ≤ y.2.2.1 then some (y, .ref o :: (st.take n).reverse, r) else none
      | _ => none)
    | _ => none)
  | _ => none
/-- a return -/
def xRet (ret : Option FieldType) (i : Instr) (len : Nat) (st : List Value) : Option (Option Value) := match i with
  | .ireturn => (match ret, st with
    | some .int, [.int v] => if len = 1 then some (some (.int v)) else none
    | some .boolean, [.int v] => if len = 1 ∧ (v = 0 ∨ v = 1) then some (some (.int v)) else none
    | _, _ => none)
  | .lreturn => (match ret, st with
    | some .long, [.long v] => if len = 1 then some (some (.long v)) else none
    | _, _ => none)
  | .return_ => (match ret, st with
    | none, [] => if len = 1 then some none else none
    | _, _ => none)
  | _ => none
/-- a run of at most n steps, calls at most d deep -/
def xRun : Nat → Nat → xMI → Nat → xAL → List Value → xSt → xRes
  | 0, _, _, _, _, _, _ => none
  | n + 1, d, y, pc, al, st, g => match decode y.2.1 pc with
    | .error _ => none
    | .ok (i, len) => match xRet y.2.2.2.1 i len st with
      | some v => some (v, g)
      | none => match xCall y.2.2.2.2 i len st g with
        | some (y', as, r) => (match d with
          | 0 => none
          | d' + 1 => (match xRun n d' y' 0 (xEntry as y'.2.2.1) [] g with
            | some (v, g') => xRun n (d' + 1) y (pc + 3) al (v.toList ++ r) g'
            | none => none))
        | none => match xStep y i len pc al st g with
          | some (pc', al', st', g') => xRun n d y pc' al' st' g'
          | none => none
theorem xRun_mono (n : Nat) : ∀ (d : Nat) (y : xMI) (pc : Nat) (al : xAL) (st : List Value) (g : xSt) (r : Option Value × xSt), xRun n d y pc al st g = some r → xRun (n + 1) d y pc al st g = some r := by
  induction n with
  | zero => intro d y pc al st g r h; cases h
  | succ n ih =>
    intro d y pc al st g r h
    rw [xRun] at h
    rw [xRun]
    split at h
    · cases h
    · rename_i i len hd
      try simp only [hd]
      split at h
      · rename_i v hv
        try simp only [hv]
        exact h
      · rename_i hv
        try simp only [hv]
        split at h
        · rename_i y' as r' hc
          try simp only [hc]
          cases d with
          | zero => cases h
          | succ d =>
            dsimp only at h ⊢
            split at h
            · rename_i v g' h1
              simp only [ih _ _ _ _ _ _ _ h1]
              exact ih _ _ _ _ _ _ _ h
            · cases h
        · rename_i hc
          try simp only [hc]
          split at h
          · rename_i hs
            try simp only [hs]
            exact ih _ _ _ _ _ _ _ h
          · cases h
theorem xRun_le {n m : Nat} (hnm : n ≤ m) {d : Nat} {y : xMI} {pc : Nat} {al : xAL} {st : List Value} {g : xSt} {r : Option Value × xSt} (h : xRun n d y pc al st g = some r) : xRun m d y pc al st g = some r := by
  induction hnm with
  | refl => exact h
  | step _ ih => exact xRun_mono _ _ _ _ _ _ _ _ ih
/-- deeper calls allowed: the same run -/
theorem xRun_deep (n : Nat) : ∀ (d : Nat) (y : xMI) (pc : Nat) (al : xAL) (st : List Value) (g : xSt) (r : Option Value × xSt), xRun n d y pc al st g = some r → xRun n (d + 1) y pc al st g = some r := by
  induction n with
  | zero => intro d y pc al st g r h; cases h
  | succ n ih =>
    intro d y pc al st g r h
    rw [xRun] at h
    rw [xRun]
    split at h
    · cases h
    · rename_i i len hd
      try simp only [hd]
      split at h
      · rename_i v hv
        try simp only [hv]
        exact h
      · rename_i hv
        try simp only [hv]
        split at h
        · rename_i y' as r' hc
          try simp only [hc]
          cases d with
          | zero => cases h
          | succ d =>
            dsimp only at h ⊢
            split at h
            · rename_i v g' h1
              simp only [ih _ _ _ _ _ _ _ h1]
              exact ih _ _ _ _ _ _ _ h
            · cases h
        · rename_i hc
          try simp only [hc]
          split at h
          · rename_i hs
            try simp only [hs]
            exact ih _ _ _ _ _ _ _ h
          · cases h
/-! the run's limit: what some number of steps answers -/
noncomputable def xX (d : Nat) (y : xMI) (pc : Nat) (al : xAL) (st : List Value) (g : xSt) : xRes :=
  @dite _ (∃ r n, xRun n d y pc al st g = some r) (Classical.propDecidable _) (fun h => some (Classical.choose h)) (fun _ => none)
theorem xX_iff {d : Nat} {y : xMI} {pc : Nat} {al : xAL} {st : List Value} {g : xSt} {r : Option Value × xSt} : xX d y pc al st g = some r ↔ ∃ n, xRun n d y pc al st g = some r := by
  unfold xX
  by_cases h : ∃ r n, xRun n d y pc al st g = some r
  · rw [dif_pos h]
    obtain ⟨n, hn⟩ := Classical.choose_spec h
    constructor
    · intro e
      rw [← Option.some.inj e]
      exact ⟨n, hn⟩
    · rintro ⟨m, hm⟩
      have a := xRun_le (Nat.le_max_left n m) hn
      have b := xRun_le (Nat.le_max_right n m) hm
      exact a.symm.trans b
  · rw [dif_neg h]
    exact ⟨fun e => (by cases e), fun e => absurd ⟨r, e⟩ h⟩
/-- one step of the limit -/
noncomputable def xNext (d : Nat) (y : xMI) (pc : Nat) (al : xAL) (st : List Value) (g : xSt) : xRes := match decode y.2.1 pc with
  | .error _ => none
  | .ok (i, len) => match xRet y.2.2.2.1 i len st with
    | some v => some (v, g)
    | none => match xCall y.2.2.2.2 i len st g with
      | some (y', as, r) => (match d with
        | 0 => none
        | d' + 1 => (match xX d' y' 0 (xEntry as y'.2.2.1) [] g with
          | some (v, g') => xX (d' + 1) y (pc + 3) al (v.toList ++ r) g'
          | none => none))
      | none => match xStep y i len pc al st g with
        | some (pc', al', st', g') => xX d y pc' al' st' g'
        | none => none
theorem xX_next (d : Nat) (y : xMI) (pc : Nat) (al : xAL) (st : List Value) (g : xSt) : xX d y pc al st g = xNext d y pc al st g := by
  have key : ∀ r, xX d y pc al st g = some r ↔ xNext d y pc al st g = some r := by
    intro r
    rw [xX_iff]
    have up : (∃ n, xRun n d y pc al st g = some r) ↔ ∃ n, xRun (n + 1) d y pc al st g = some r := ⟨fun ⟨n, h⟩ => ⟨n, xRun_mono _ _ _ _ _ _ _ _ h⟩, fun ⟨n, h⟩ => ⟨n + 1, h⟩⟩
    rw [up]
    unfold xNext
    simp only [xRun]
    cases hd : decode y.2.1 pc with
    | error e => simp
    | ok q =>
      obtain ⟨i, len⟩ := q
      dsimp only
      cases hv : xRet y.2.2.2.1 i len st with
      | some v => simp
      | none =>
        dsimp only
        cases hc : xCall y.2.2.2.2 i len st g with
        | some q =>
          obtain ⟨y', as, r'⟩ := q
          dsimp only
          cases d with
          | zero => simp
          | succ d =>
            dsimp only
            constructor
            · rintro ⟨n, h⟩
              split at h
              · rename_i v g' h1
                rw [xX_iff.mpr ⟨n, h1⟩]
                exact xX_iff.mpr ⟨n, h⟩
              · cases h
            · intro h
              split at h
              · rename_i v g' h1
                obtain ⟨n, h1⟩ := xX_iff.mp h1
                obtain ⟨m, h2⟩ := xX_iff.mp h
                refine ⟨max n m, ?_⟩
                rw [xRun_le (Nat.le_max_left n m) h1]
                exact xRun_le (Nat.le_max_right n m) h2
              · cases h
        | none =>
          dsimp only
          cases hs : xStep y i len pc al st g with
          | some q =>
            obtain ⟨pc', al', st', g'⟩ := q
            dsimp only
            exact xX_iff.symm
          | none => simp
  cases h : xNext d y pc al st g with
  | some r => exact (key r).mpr h
  | none =>
    cases h2 : xX d y pc al st g with
    | none => rfl
    | some r => rw [(key r).mp h2] at h; cases h
theorem xX_deep {d d' : Nat} (hd : d ≤ d') {y : xMI} {pc : Nat} {al : xAL} {st : List Value} {g : xSt} {r : Option Value × xSt} (h : xX d y pc al st g = some r) : xX d' y pc al st g = some r := by
  induction hd with
  | refl => exact h
  | step _ ih =>
    obtain ⟨n, hn⟩ := xX_iff.mp ih
    exact xX_iff.mpr ⟨n, xRun_deep _ _ _ _ _ _ _ _ hn⟩
/-- a method, called with as -/
noncomputable def xCallM (d : Nat) (y : xMI) (as : List Value) (g : xSt) : xRes := xX d y 0 (xEntry as y.2.2.1) [] g
