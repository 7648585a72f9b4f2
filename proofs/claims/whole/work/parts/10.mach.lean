/-! A small machine of our own over the same instructions: cells by number, contents as functions. What it does is proved of the machine once (part 20), so that each method is a matter of this small machine alone. -/
/-- a state: how many cells, slots used, kinds with lengths, ints, longs, references -/
abbrev SS : Type := Nat × Nat × (Nat → Nat × Nat) × (Nat → Nat → Int32) × (Nat → Nat → Int64) × (Nat → Nat → Option Nat)
/-- a frame of it: pc, locals, operand stack, state -/
abbrev Cfg : Type := Nat × List Value × List Value × SS
/-- on, or back with an answer, or a call: callee, its arguments, what stays on the stack -/
abbrev Out : Type := Cfg ⊕ (Option Value × SS) ⊕ (Nat × List Value × List Value)
/-- a program: instructions; resolved numbers at a pc; constants; switches; of a method its locals and what it answers; of a class's field its type; the arrays that are given -/
abbrev PG : Type := (Nat → Nat → Option (Instr × Nat)) × (Nat → Nat → Nat × Nat × Nat × Nat) × (Nat → Nat → Value) × (Nat → Nat → Int × Int × List Nat × Nat) × (Nat → Nat × Nat) × (Nat → Nat → Nat) × (Nat → Nat × (Nat → Int32))
def up2 {α : Type} (f : Nat → Nat → α) (c k : Nat) (v : α) : Nat → Nat → α := fun c' => if c' = c then (fun j => if j = k then v else f c j) else f c'
def upR {α : Type} (f : Nat → α) (c : Nat) (v : α) : Nat → α := fun c' => if c' = c then v else f c'
/-- a place of the locals that holds nothing -/
abbrev vU : Value := .retAddr 99
def unL (v : Value) : List Value := match v with
  | .long x => [.long x, vU]
  | .double x => [.double x, vU]
  | w => [w]
def mkL (n : Nat) (as : List Value) : List Value := let l := as.flatMap unL; l ++ List.replicate (n - l.length) vU
/-- a place is written: a long that began just ahead of it is gone -/
def stL (L : List Value) (i : Nat) (v : Value) : List Value := match i with
  | 0 => L.set 0 v
  | j + 1 => match L[j]? with
    | some (.long _) => (L.set j vU).set (j + 1) v
    | some (.double _) => (L.set j vU).set (j + 1) v
    | _ => L.set (j + 1) v
def stL2 (L : List Value) (i : Nat) (v : Value) : List Value := (stL L i v).set (i + 1) vU
/-- the words that stand on a stack -/
def catS : List Value → Nat
  | [] => 0
  | v :: t => v.category + catS t
def nx (pc : Nat) (L S : List Value) (z : SS) : Option Out := some (.inl (pc, L, S, z))
def alloc (z : SS) (kind len : Nat) : SS := (z.1 + 1, z.2.1 + len, upR z.2.2.1 z.1 (kind, len), upR z.2.2.2.1 z.1 (fun _ => 0), upR z.2.2.2.2.1 z.1 (fun _ => 0), upR z.2.2.2.2.2 z.1 (fun _ => none))
def setI (z : SS) (c k : Nat) (v : Int32) : SS := (z.1, z.2.1, z.2.2.1, up2 z.2.2.2.1 c k v, z.2.2.2.2)
def setJ (z : SS) (c k : Nat) (v : Int64) : SS := (z.1, z.2.1, z.2.2.1, z.2.2.2.1, up2 z.2.2.2.2.1 c k v, z.2.2.2.2.2)
def setP (z : SS) (c k : Nat) (v : Option Nat) : SS := (z.1, z.2.1, z.2.2.1, z.2.2.2.1, z.2.2.2.2.1, up2 z.2.2.2.2.2 c k v)
def rfv (o : Option Nat) : Value := match o with
  | some c => .ref c
  | none => .null
def fget (t : Nat) (z : SS) (c k : Nat) : Value := match t with
  | 0 => .int (z.2.2.2.1 c k)
  | 1 => .int (z.2.2.2.1 c k)
  | 2 => .long (z.2.2.2.2.1 c k)
  | _ => rfv (z.2.2.2.2.2 c k)
def fput (t : Nat) (z : SS) (c k : Nat) (v : Value) : Option SS := match t, v with
  | 0, .int x => some (setI z c k x)
  | 1, .int x => if x = 0 ∨ x = 1 then some (setI z c k x) else none
  | 2, .long x => some (setJ z c k x)
  | 3, .ref x => if x < z.1 then some (setP z c k (some x)) else none
  | _, _ => none
def b2 (f : Int32 → Int32 → Int32) (pc : Nat) (L S : List Value) (z : SS) : Option Out := match S with
  | .int y :: .int x :: r => nx (pc + 1) L (.int (f x y) :: r) z
  | _ => none
def l2 (f : Int64 → Int64 → Int64) (pc : Nat) (L S : List Value) (z : SS) : Option Out := match S with
  | .long y :: .long x :: r => nx (pc + 1) L (.long (f x y) :: r) z
  | _ => none
def cmpI (c : Jvm.ClassFile.Cond) (x y : Int32) (a b : Nat) : Nat := match c with
  | .eq => if x = y then a else b
  | .ne => if x = y then b else a
  | .lt => if x < y then a else b
  | .ge => if y ≤ x then a else b
  | .gt => if y < x then a else b
  | .le => if x ≤ y then a else b
def ldL (ty : Nat) (pc : Nat) (i : Nat) (L S : List Value) (z : SS) : Option Out := match L[i]?, ty with
  | some (.int x), 0 => nx pc L (.int x :: S) z
  | some (.long x), 1 => nx pc L (.long x :: S) z
  | some (.ref x), 2 => nx pc L (.ref x :: S) z
  | some (.retAddr k), 2 => if k < 3 then nx pc L (.retAddr k :: S) z else none
  | _, _ => none
def sto (ty : Nat) (pc : Nat) (i : Nat) (L S : List Value) (z : SS) : Option Out := match S, ty with
  | .int x :: r, 0 => if i < L.length then nx pc (stL L i (.int x)) r z else none
  | .long x :: r, 1 => if i + 1 < L.length then nx pc (stL2 L i (.long x)) r z else none
  | .ref x :: r, 2 => if i < L.length then nx pc (stL L i (.ref x)) r z else none
  | _, _ => none
def ald (g : PG) (ty : Nat) (pc : Nat) (L S : List Value) (z : SS) : Option Out := match S with
  | .int i :: .ref c :: r => if i < 0 ∨ (z.2.2.1 c).2 ≤ i.toNatClampNeg then none else if c < z.1 then match ty with
    | 0 => if (z.2.2.1 c).1 = 100 then nx (pc + 1) L (.int (z.2.2.2.1 c i.toNatClampNeg) :: r) z else none
    | 1 => if (z.2.2.1 c).1 = 101 ∨ (z.2.2.1 c).1 = 102 then nx (pc + 1) L (.int (z.2.2.2.1 c i.toNatClampNeg) :: r) z else none
    | 2 => if (z.2.2.1 c).1 = 103 then nx (pc + 1) L (.long (z.2.2.2.2.1 c i.toNatClampNeg) :: r) z else none
    | _ => if 200 ≤ (z.2.2.1 c).1 then nx (pc + 1) L (rfv (z.2.2.2.2.2 c i.toNatClampNeg) :: r) z else none
    else none
  | .int i :: .retAddr k :: r => if i < 0 ∨ (g.2.2.2.2.2.2 k).1 ≤ i.toNatClampNeg then none else if k < 2 ∧ ty = 0 then nx (pc + 1) L (.int ((g.2.2.2.2.2.2 k).2 i.toNatClampNeg) :: r) z else none
  | _ => none
def ast (ty : Nat) (pc : Nat) (L S : List Value) (z : SS) : Option Out := match S with
  | .int x :: .int i :: .ref c :: r => if i < 0 ∨ (z.2.2.1 c).2 ≤ i.toNatClampNeg then none else if c < z.1 then match ty with
    | 0 => if (z.2.2.1 c).1 = 100 then nx (pc + 1) L r (setI z c i.toNatClampNeg x) else none
    | 1 => if (z.2.2.1 c).1 = 101 then (if x = 0 ∨ x = 1 then nx (pc + 1) L r (setI z c i.toNatClampNeg x) else none) else if (z.2.2.1 c).1 = 102 then nx (pc + 1) L r (setI z c i.toNatClampNeg x.toInt8.toInt32) else none
    | _ => none
    else none
  | .long x :: .int i :: .ref c :: r => if i < 0 ∨ (z.2.2.1 c).2 ≤ i.toNatClampNeg then none else if c < z.1 ∧ ty = 2 ∧ (z.2.2.1 c).1 = 103 then nx (pc + 1) L r (setJ z c i.toNatClampNeg x) else none
  | .ref v :: .int i :: .ref c :: r => if i < 0 ∨ (z.2.2.1 c).2 ≤ i.toNatClampNeg then none else if c < z.1 ∧ v < z.1 ∧ ty = 3 ∧ (z.2.2.1 v).1 < 100 ∧ (z.2.2.1 c).1 = 200 + (z.2.2.1 v).1 then nx (pc + 1) L r (setP z c i.toNatClampNeg (some v)) else none
  | _ => none
/-- the calls that are one step here -/
def built (g : PG) (b : Nat) (pc : Nat) (L S : List Value) (z : SS) : Option Out := match b, S with
  | 1, .int y :: .int x :: r => if catS r ≤ 8 then nx (pc + 3) L (.int (if y < x then y else x) :: r) z else none
  | 2, .int y :: .int x :: r => if catS r ≤ 8 then nx (pc + 3) L (.int (if x < y then y else x) :: r) z else none
  | 3, .long y :: .long x :: r => if catS r ≤ 8 then nx (pc + 3) L (.long (if y < x then y else x) :: r) z else none
  | 4, .long y :: .long x :: r => if catS r ≤ 8 then nx (pc + 3) L (.long (if y < x then x else y) :: r) z else none
  | 5, .int n :: .int dp :: .ref d :: .int sp :: .ref s :: r =>
    if catS r ≤ 8 ∧ d < z.1 ∧ s < z.1 ∧ ((z.2.2.1 d).1 = 100 ∨ (z.2.2.1 d).1 = 101) ∧ (z.2.2.1 s).1 = (z.2.2.1 d).1 ∧ ¬ sp < 0 ∧ ¬ dp < 0 ∧ ¬ n < 0 ∧ sp.toNatClampNeg + n.toNatClampNeg ≤ (z.2.2.1 s).2 ∧ dp.toNatClampNeg + n.toNatClampNeg ≤ (z.2.2.1 d).2 then
      nx (pc + 3) L r (z.1, z.2.1, z.2.2.1, upR z.2.2.2.1 d (va_cpy (z.2.2.2.1 s) (z.2.2.2.1 d) sp.toNatClampNeg dp.toNatClampNeg n.toNatClampNeg), z.2.2.2.2)
    else none
  | 6, .retAddr 2 :: r => if catS r ≤ 8 then nx (pc + 3) L (.int (nI (g.2.2.2.2.2.2 2).1) :: r) z else none
  | 7, .int i :: .retAddr 2 :: r => if catS r ≤ 8 ∧ ¬ (i < 0 ∨ (g.2.2.2.2.2.2 2).1 ≤ i.toNatClampNeg) then nx (pc + 3) L (.int ((g.2.2.2.2.2.2 2).2 i.toNatClampNeg) :: r) z else none
  | 8, .ref _ :: r => if catS r ≤ 8 then nx (pc + 3) L r z else none
  | _, _ => none
/-- one instruction -/
def exec1 (g : PG) (mid pc : Nat) (i : Instr) (L S : List Value) (z : SS) : Option Out := match i with
  | .iconst n => nx (pc + 1) L (.int (Int32.ofInt n) :: S) z
  | .bipush n => nx (pc + 2) L (.int (Int8.ofInt n).toInt32 :: S) z
  | .sipush n => nx (pc + 3) L (.int (Int16.ofInt n).toInt32 :: S) z
  | .lconst n => nx (pc + 1) L (.long (Int64.ofNat (n : Nat)) :: S) z
  | .ldc _ => (match g.2.2.1 mid pc with
    | .int x => nx (pc + 2) L (.int x :: S) z
    | .retAddr 2 => nx (pc + 2) L (.retAddr 2 :: S) z
    | _ => none)
  | .ldc_w _ => (match g.2.2.1 mid pc with
    | .int x => nx (pc + 3) L (.int x :: S) z
    | _ => none)
  | .ldc2_w _ => (match g.2.2.1 mid pc with
    | .long x => nx (pc + 3) L (.long x :: S) z
    | _ => none)
  | .getstatic _ => nx (pc + 3) L (.retAddr 1 :: S) z
  | .iload_n k => ldL 0 (pc + 1) k L S z
  | .iload k => ldL 0 (pc + 2) k L S z
  | .lload_n k => ldL 1 (pc + 1) k L S z
  | .lload k => ldL 1 (pc + 2) k L S z
  | .aload_n k => ldL 2 (pc + 1) k L S z
  | .aload k => ldL 2 (pc + 2) k L S z
  | .istore_n k => sto 0 (pc + 1) k L S z
  | .istore k => sto 0 (pc + 2) k L S z
  | .lstore_n k => sto 1 (pc + 1) k L S z
  | .lstore k => sto 1 (pc + 2) k L S z
  | .astore_n k => sto 2 (pc + 1) k L S z
  | .astore k => sto 2 (pc + 2) k L S z
  | .iinc k n => (match L[k]? with
    | some (.int x) => nx (pc + 3) (stL L k (.int (x + Int32.ofInt n))) S z
    | _ => none)
  | .iadd => b2 (fun x y => x + y) pc L S z
  | .isub => b2 (fun x y => x - y) pc L S z
  | .imul => b2 (fun x y => x * y) pc L S z
  | .iand => b2 (fun x y => x &&& y) pc L S z
  | .ior => b2 (fun x y => x ||| y) pc L S z
  | .ixor => b2 (fun x y => x ^^^ y) pc L S z
  | .ishl => b2 (fun x y => x <<< (y &&& 31)) pc L S z
  | .ishr => b2 (fun x y => x >>> (y &&& 31)) pc L S z
  | .iushr => b2 (fun x y => (x.toUInt32 >>> (y.toUInt32 &&& Int32.toUInt32 31)).toInt32) pc L S z
  | .idiv => (match S with
    | .int y :: .int x :: r => if y = 0 then none else nx (pc + 1) L (.int (x / y) :: r) z
    | _ => none)
  | .irem => (match S with
    | .int y :: .int x :: r => if y = 0 then none else nx (pc + 1) L (.int (x - x / y * y) :: r) z
    | _ => none)
  | .ineg => (match S with
    | .int x :: r => nx (pc + 1) L (.int (-x) :: r) z
    | _ => none)
  | .ladd => l2 (fun x y => x + y) pc L S z
  | .lsub => l2 (fun x y => x - y) pc L S z
  | .lmul => l2 (fun x y => x * y) pc L S z
  | .land => l2 (fun x y => x &&& y) pc L S z
  | .lor => l2 (fun x y => x ||| y) pc L S z
  | .lneg => (match S with
    | .long x :: r => nx (pc + 1) L (.long (-x) :: r) z
    | _ => none)
  | .lshl => (match S with
    | .int y :: .long x :: r => nx (pc + 1) L (.long (x <<< (y.toInt64 &&& 63)) :: r) z
    | _ => none)
  | .lcmp => (match S with
    | .long y :: .long x :: r => nx (pc + 1) L (.int (lg_cmp x y) :: r) z
    | _ => none)
  | .i2l => (match S with
    | .int x :: r => nx (pc + 1) L (.long x.toInt64 :: r) z
    | _ => none)
  | .l2i => (match S with
    | .long x :: r => nx (pc + 1) L (.int x.toInt32 :: r) z
    | _ => none)
  | .i2b => (match S with
    | .int x :: r => nx (pc + 1) L (.int x.toInt8.toInt32 :: r) z
    | _ => none)
  | .dup => (match S with
    | .int x :: r => nx (pc + 1) L (.int x :: .int x :: r) z
    | .ref x :: r => nx (pc + 1) L (.ref x :: .ref x :: r) z
    | _ => none)
  | .dup2 => (match S with
    | .int x :: .ref y :: r => nx (pc + 1) L (.int x :: .ref y :: .int x :: .ref y :: r) z
    | _ => none)
  | .goto _ => nx (g.2.1 mid pc).1 L S z
  | .ifCond c _ => (match S with
    | .int x :: r => nx (cmpI c x 0 (g.2.1 mid pc).1 (pc + 3)) L r z
    | _ => none)
  | .if_icmp c _ => (match S with
    | .int y :: .int x :: r => nx (cmpI c x y (g.2.1 mid pc).1 (pc + 3)) L r z
    | _ => none)
  | .tableswitch _ _ _ _ => (match S with
    | .int x :: r => let w := g.2.2.2.1 mid pc; nx (if x.toInt < w.1 ∨ w.2.1 < x.toInt then w.2.2.2 else w.2.2.1.getD (x.toInt - w.1).toNat 0) L r z
    | _ => none)
  | .getfield _ => (match S with
    | .ref c :: r => let w := g.2.1 mid pc; if c < z.1 ∧ (z.2.2.1 c).1 = w.1 then nx (pc + 3) L (fget (g.2.2.2.2.2.1 w.1 w.2.1) z c w.2.1 :: r) z else none
    | _ => none)
  | .putfield _ => (match S with
    | v :: .ref c :: r => let w := g.2.1 mid pc; if c < z.1 ∧ (z.2.2.1 c).1 = w.1 then (match fput (g.2.2.2.2.2.1 w.1 w.2.1) z c w.2.1 v with
      | some z' => nx (pc + 3) L r z'
      | none => none) else none
    | _ => none)
  | .arraylength => (match S with
    | .ref c :: r => if c < z.1 ∧ 100 ≤ (z.2.2.1 c).1 then nx (pc + 1) L (.int (nI (z.2.2.1 c).2) :: r) z else none
    | .retAddr k :: r => if k = 0 then nx (pc + 1) L (.int (nI (g.2.2.2.2.2.2 k).1) :: r) z else none
    | _ => none)
  | .iaload => ald g 0 pc L S z
  | .baload => ald g 1 pc L S z
  | .laload => ald g 2 pc L S z
  | .aaload => ald g 3 pc L S z
  | .iastore => ast 0 pc L S z
  | .bastore => ast 1 pc L S z
  | .lastore => ast 2 pc L S z
  | .aastore => ast 3 pc L S z
  | .new _ => let w := g.2.1 mid pc; nx (pc + 3) L (.ref z.1 :: S) (alloc z w.1 w.2.1)
  | .newarray t => (match S with
    | .int n :: r => if n < 0 ∨ 100000 ≤ n.toNatClampNeg then none else (match t with
      | .int => nx (pc + 2) L (.ref z.1 :: r) (alloc z 100 n.toNatClampNeg)
      | .boolean => nx (pc + 2) L (.ref z.1 :: r) (alloc z 101 n.toNatClampNeg)
      | .byte => nx (pc + 2) L (.ref z.1 :: r) (alloc z 102 n.toNatClampNeg)
      | .long => nx (pc + 2) L (.ref z.1 :: r) (alloc z 103 n.toNatClampNeg)
      | _ => none)
    | _ => none)
  | .anewarray _ => (match S with
    | .int n :: r => if n < 0 ∨ 100000 ≤ n.toNatClampNeg then none else nx (pc + 3) L (.ref z.1 :: r) (alloc z (200 + (g.2.1 mid pc).1) n.toNatClampNeg)
    | _ => none)
  | .invokestatic _ => let w := g.2.1 mid pc; if w.2.2.2 = 0 then (if w.2.1 ≤ S.length ∧ catS (S.drop w.2.1) ≤ 8 then some (.inr (.inr (w.1, (S.take w.2.1).reverse, S.drop w.2.1))) else none) else built g w.2.2.2 pc L S z
  | .invokevirtual _ => let w := g.2.1 mid pc; if w.2.2.2 = 0 then (match S.drop w.2.1 with
      | .ref c :: r => if catS r ≤ 8 ∧ c < z.1 ∧ (z.2.2.1 c).1 = w.2.2.1 then some (.inr (.inr (w.1, .ref c :: (S.take w.2.1).reverse, r))) else none
      | _ => none) else built g w.2.2.2 pc L S z
  | .invokespecial _ => let w := g.2.1 mid pc; if w.2.2.2 = 0 then (match S.drop w.2.1 with
      | .ref c :: r => if catS r ≤ 8 ∧ c < z.1 ∧ (z.2.2.1 c).1 = w.2.2.1 then some (.inr (.inr (w.1, .ref c :: (S.take w.2.1).reverse, r))) else none
      | _ => none) else built g w.2.2.2 pc L S z
  | .ireturn => (match S with
    | [.int x] => if (g.2.2.2.2.1 mid).2 = 1 ∨ (g.2.2.2.2.1 mid).2 = 2 ∧ (x = 0 ∨ x = 1) then some (.inr (.inl (some (.int x), z))) else none
    | _ => none)
  | .lreturn => (match S with
    | [.long x] => if (g.2.2.2.2.1 mid).2 = 3 then some (.inr (.inl (some (.long x), z))) else none
    | _ => none)
  | .areturn => (match S with
    | [.ref x] => if (g.2.2.2.2.1 mid).2 = 4 then some (.inr (.inl (some (.ref x), z))) else none
    | _ => none)
  | .return_ => (match S with
    | [] => if (g.2.2.2.2.1 mid).2 = 0 then some (.inr (.inl (none, z))) else none
    | _ => none)
  | _ => none
def step (g : PG) (mid : Nat) (c : Cfg) : Option Out := match g.1 mid c.1 with
  | some (i, _) => exec1 g mid c.1 i c.2.1 c.2.2.1 c.2.2.2
  | none => none
/-- fuel, depth of calls, method, frame: what it answers and the state behind it -/
def RR (g : PG) : Nat → Nat → Nat → Cfg → Option (Option Value × SS)
  | 0, _, _, _ => none
  | f + 1, d, mid, c => match step g mid c with
    | some (.inl c') => RR g f d mid c'
    | some (.inr (.inl r)) => some r
    | some (.inr (.inr (cm, as, rest))) => (match d with
      | 0 => none
      | d' + 1 => if (as.flatMap unL).length ≤ (g.2.2.2.2.1 cm).1 then (match RR g f d' cm (0, mkL (g.2.2.2.2.1 cm).1 as, [], c.2.2.2) with
        | some r => RR g f (d' + 1) mid (c.1 + 3, c.2.1, r.1.toList ++ rest, r.2)
        | none => none) else none)
    | none => none
def Runs (g : PG) (d mid : Nat) (c : Cfg) (r : Option Value × SS) : Prop := ∃ f, RR g f d mid c = some r
