/-! ===== A SMALL MACHINE: what the bytecode does, over Int, in Prop. Values: int, reference (a number; 0 is null), long, nothing ===== -/
abbrev xv : Type := Int ⊕ (Nat ⊕ (Int64 ⊕ Unit))
abbrev xV : Type := Nat → Nat → Int
/-- how many cells, how many slots, each cell's kind, its length, its references, its longs -/
abbrev xZ : Type := Nat × Nat × (Nat → Nat) × (Nat → Nat) × (Nat → Nat → Nat) × (Nat → Nat → Int64)
abbrev xA : Type := Option ((List xv × List xv × xZ × xV) ⊕ ((Nat × List xv × List xv × xZ × xV) ⊕ ((Nat × Bool × List xv × List xv × List xv) ⊕ (xZ × xV × xv))))
def zn (z : xZ) : Nat := z.1
def zs (z : xZ) : Nat := z.2.1
def zh (z : xZ) (a : Nat) : Nat := z.2.2.1 a
def zl (z : xZ) (a : Nat) : Nat := z.2.2.2.1 a
def zr (z : xZ) (a k : Nat) : Nat := z.2.2.2.2.1 a k
def zw (z : xZ) (a k : Nat) : Int64 := z.2.2.2.2.2 a k
def wr (x : Int) : Int := Int.bmod x 4294967296
def rg (x : Int) : Prop := -2147483648 ≤ x ∧ x < 2147483648
def up (v : xV) (a k : Nat) (x : Int) : xV := fun a' k' => if a' = a ∧ k' = k then x else v a' k'
def upR (z : xZ) (a k b : Nat) : xZ := (z.1, z.2.1, z.2.2.1, z.2.2.2.1, fun a' k' => if a' = a ∧ k' = k then b else z.2.2.2.2.1 a' k', z.2.2.2.2.2)
def upW (z : xZ) (a k : Nat) (x : Int64) : xZ := (z.1, z.2.1, z.2.2.1, z.2.2.2.1, z.2.2.2.2.1, fun a' k' => if a' = a ∧ k' = k then x else z.2.2.2.2.2 a' k')
/-- a new cell of kind t, length n, of sl slots -/
def nwZ (z : xZ) (t n sl : Nat) : xZ := (z.1 + 1, z.2.1 + sl, fun a => if a = z.1 then t else z.2.2.1 a, fun a => if a = z.1 then n else z.2.2.2.1 a, fun a k => if a = z.1 then 0 else z.2.2.2.2.1 a k, fun a k => if a = z.1 then 0 else z.2.2.2.2.2 a k)
def nwV (v : xV) (n : Nat) : xV := fun a k => if a = n then 0 else v a k
/-- new int[n][m] -/
def nwZM (z : xZ) (n m : Nat) : xZ := (z.1 + 1 + n, z.2.1 + (n + n * m), fun a => if a = z.1 then 105 else if z.1 < a ∧ a ≤ z.1 + n then 100 else z.2.2.1 a, fun a => if a = z.1 then n else if z.1 < a ∧ a ≤ z.1 + n then m else z.2.2.2.1 a, fun a k => if a = z.1 then (if k < n then z.1 + 1 + k else 0) else if z.1 < a ∧ a ≤ z.1 + n then 0 else z.2.2.2.2.1 a k, fun a k => if z.1 ≤ a ∧ a ≤ z.1 + n then 0 else z.2.2.2.2.2 a k)
def nwVM (v : xV) (a0 n : Nat) : xV := fun a k => if a0 ≤ a ∧ a ≤ a0 + n then 0 else v a k
/-- System.arraycopy of ints -/
def cpV (v : xV) (a sp b dp n : Nat) : xV := fun a' k' => if a' = b ∧ dp ≤ k' ∧ k' < dp + n then v a (sp + (k' - dp)) else v a' k'
def nth : List xv → Nat → xv
  | [], _ => .inr (.inr (.inr ()))
  | a :: _, 0 => a
  | _ :: l, k + 1 => nth l k
/-- a long whose second half is written is none any more -/
def clr : xv → Nat → xv
  | .inr (.inr _), 0 => .inr (.inr (.inr ()))
  | x, _ => x
def sto : List xv → Nat → xv → List xv
  | [], 0, x => [x]
  | [], k + 1, x => .inr (.inr (.inr ())) :: sto [] k x
  | _ :: l, 0, x => x :: l
  | a :: l, k + 1, x => clr a k :: sto l k x
def stoL : List xv → Nat → xv → List xv
  | [], 0, x => [x, .inr (.inr (.inr ()))]
  | [], k + 1, x => .inr (.inr (.inr ())) :: stoL [] k x
  | [_], 0, x => [x, .inr (.inr (.inr ()))]
  | _ :: _ :: l, 0, x => x :: .inr (.inr (.inr ())) :: l
  | a :: l, k + 1, x => clr a k :: stoL l k x
/-- arguments as locals: a long takes two places -/
def lay : List xv → List xv
  | [] => []
  | .inr (.inr (.inl x)) :: l => .inr (.inr (.inl x)) :: .inr (.inr (.inr ())) :: lay l
  | x :: l => x :: lay l
/-- at most four values -/
def sh4 : List xv → Bool
  | [] => true
  | [_] => true
  | [_, _] => true
  | [_, _, _] => true
  | [_, _, _, _] => true
  | _ => false
/-- the n values on top, none of them a long, the deepest first, and the rest, at most four -/
def spl : Nat → List xv → List xv → Option (List xv × List xv)
  | 0, S, acc => match sh4 S with
    | true => some (acc, S)
    | false => none
  | n + 1, .inl x :: S, acc => spl n S (.inl x :: acc)
  | n + 1, .inr (.inl x) :: S, acc => spl n S (.inr (.inl x) :: acc)
  | _ + 1, _, _ => none
/-- the same of longs -/
def splL : Nat → List xv → List xv → Option (List xv × List xv)
  | 0, S, acc => match sh4 S with
    | true => some (acc, S)
    | false => none
  | n + 1, .inr (.inr (.inl x)) :: S, acc => splL n S (.inr (.inr (.inl x)) :: acc)
  | _ + 1, _, _ => none
/-- the receiver is of kind t (t + 1 asked; 0: none is asked) -/
def rcv : Nat → List xv → xZ → Bool
  | 0, _, _ => true
  | t + 1, .inr (.inl a) :: _, z => zh z a == t
  | _ + 1, _, _ => false
def cA1 (L S : List xv) (z : xZ) (v : xV) : xA := some (.inl (L, S, z, v))
def jA1 (t : Int) (L S : List xv) (z : xZ) (v : xV) : xA := some (.inr (.inl (t.toNat, L, S, z, v)))
def rA1 (z : xZ) (v : xV) (x : xv) : xA := some (.inr (.inr (.inr (z, v, x))))
def b32 (f : Int32 → Int32 → Int32) (x y : Int) : Int := (f (Int32.ofInt x) (Int32.ofInt y)).toInt
def oBin (f : Int → Int → Int) (L S : List xv) (z : xZ) (v : xV) : xA := match S with
  | .inl y :: .inl x :: r => cA1 L (.inl (f x y) :: r) z v
  | _ => none
def oBinL (f : Int64 → Int64 → Int64) (L S : List xv) (z : xZ) (v : xV) : xA := match S with
  | .inr (.inr (.inl y)) :: .inr (.inr (.inl x)) :: r => cA1 L (.inr (.inr (.inl (f x y))) :: r) z v
  | _ => none
def oShL (f : Int64 → Int32 → Int64) (L S : List xv) (z : xZ) (v : xV) : xA := match S with
  | .inl y :: .inr (.inr (.inl x)) :: r => cA1 L (.inr (.inr (.inl (f x (Int32.ofInt y)))) :: r) z v
  | _ => none
def oUn (f : Int → Int) (L S : List xv) (z : xZ) (v : xV) : xA := match S with
  | .inl x :: r => cA1 L (.inl (f x) :: r) z v
  | _ => none
def oLoad (k : Nat) (L S : List xv) (z : xZ) (v : xV) : xA := match nth L k with
  | .inl x => cA1 L (.inl x :: S) z v
  | _ => none
def oLoadA (k : Nat) (L S : List xv) (z : xZ) (v : xV) : xA := match nth L k with
  | .inr (.inl x) => cA1 L (.inr (.inl x) :: S) z v
  | _ => none
def oLoadL (k : Nat) (L S : List xv) (z : xZ) (v : xV) : xA := match nth L k with
  | .inr (.inr (.inl x)) => cA1 L (.inr (.inr (.inl x)) :: S) z v
  | _ => none
def oStore (k : Nat) (L S : List xv) (z : xZ) (v : xV) : xA := match S with
  | .inl x :: r => cA1 (sto L k (.inl x)) r z v
  | _ => none
def oStoreA (k : Nat) (L S : List xv) (z : xZ) (v : xV) : xA := match S with
  | .inr (.inl x) :: r => cA1 (sto L k (.inr (.inl x))) r z v
  | _ => none
def oStoreL (k : Nat) (L S : List xv) (z : xZ) (v : xV) : xA := match S with
  | .inr (.inr (.inl x)) :: r => cA1 (stoL L k (.inr (.inr (.inl x)))) r z v
  | _ => none
def oInc (k : Nat) (c : Int) (L S : List xv) (z : xZ) (v : xV) : xA := match nth L k with
  | .inl x => cA1 (sto L k (.inl (wr (x + c)))) S z v
  | _ => none
def oIf (c : Jvm.ClassFile.Cond) (t : Int) (x y : Int) (L S : List xv) (z : xZ) (v : xV) : xA := match c with
  | .eq => if x = y then jA1 t L S z v else cA1 L S z v
  | .ne => if x = y then cA1 L S z v else jA1 t L S z v
  | .lt => if x < y then jA1 t L S z v else cA1 L S z v
  | .ge => if x < y then cA1 L S z v else jA1 t L S z v
  | .gt => if y < x then jA1 t L S z v else cA1 L S z v
  | .le => if y < x then cA1 L S z v else jA1 t L S z v
def oSw (ps : List (Int × Int)) (d x : Int) (L S : List xv) (z : xZ) (v : xV) : xA := match ps with
  | [] => jA1 d L S z v
  | (k, t) :: ps => if x = k then jA1 t L S z v else oSw ps d x L S z v
/-- ONE INSTRUCTION, its names resolved: getfield n (int field n % 128 of an object of kind n / 128), instanceof n (a reference field), putfield n, putstatic n (a boolean field), checkcast n (a reference field is written), new n (kind n / 128, n % 128 slots), ldc a (the reference a), sipush c (a long), invokeinterface j c (method j with c % 1000 / 2 arguments, the first of kind c / 1000 - 1 if that is asked; c % 2 = 1: it answers a value), invokedynamic n (method n / 4 with n % 4 longs), monitorenter (Object's constructor), dneg (arraycopy), d2f, d2i, d2l, dadd, daload (Math.max, min, abs of ints, abs, max of longs), ireturn int, freturn boolean, dreturn char, areturn byte; jumps go to absolute places -/
def act (i : Instr) (L S : List xv) (z : xZ) (v : xV) : xA := match i with
  | .iconst c => cA1 L (.inl c :: S) z v
  | .sipush c => cA1 L (.inr (.inr (.inl (Int64.ofInt c))) :: S) z v
  | .ldc a => cA1 L (.inr (.inl a) :: S) z v
  | .iload k => oLoad k L S z v
  | .aload k => oLoadA k L S z v
  | .lload k => oLoadL k L S z v
  | .istore k => oStore k L S z v
  | .astore k => oStoreA k L S z v
  | .lstore k => oStoreL k L S z v
  | .iinc k c => oInc k c L S z v
  | .iadd => oBin (fun x y => wr (x + y)) L S z v
  | .isub => oBin (fun x y => wr (x - y)) L S z v
  | .imul => oBin (fun x y => wr (x * y)) L S z v
  | .idiv => match S with
    | .inl y :: .inl x :: r => if y = 0 then none else cA1 L (.inl (wr (x.tdiv y)) :: r) z v
    | _ => none
  | .irem => match S with
    | .inl y :: .inl x :: r => if y = 0 then none else cA1 L (.inl (x.tmod y) :: r) z v
    | _ => none
  | .ineg => oUn (fun x => wr (-x)) L S z v
  | .iand => oBin (b32 (· &&& ·)) L S z v
  | .ior => oBin (b32 (· ||| ·)) L S z v
  | .ixor => oBin (b32 (· ^^^ ·)) L S z v
  | .ishl => oBin (b32 (fun x y => x <<< (y &&& 31))) L S z v
  | .ishr => oBin (b32 (fun x y => x >>> (y &&& 31))) L S z v
  | .iushr => oBin (b32 (fun x y => (x.toUInt32 >>> (y.toUInt32 &&& Int32.toUInt32 31)).toInt32)) L S z v
  | .i2b => oUn (fun x => (Int32.ofInt x).toInt8.toInt32.toInt) L S z v
  | .i2c => oUn (fun x => x % 65536) L S z v
  | .i2l => match S with
    | .inl x :: r => cA1 L (.inr (.inr (.inl (Int32.ofInt x).toInt64)) :: r) z v
    | _ => none
  | .l2i => match S with
    | .inr (.inr (.inl x)) :: r => cA1 L (.inl x.toInt32.toInt :: r) z v
    | _ => none
  | .ladd => oBinL (· + ·) L S z v
  | .lsub => oBinL (· - ·) L S z v
  | .lmul => oBinL (· * ·) L S z v
  | .land => oBinL (· &&& ·) L S z v
  | .lor => oBinL (· ||| ·) L S z v
  | .lxor => oBinL (· ^^^ ·) L S z v
  | .ldiv => match S with
    | .inr (.inr (.inl y)) :: .inr (.inr (.inl x)) :: r => if y = 0 then none else cA1 L (.inr (.inr (.inl (x / y))) :: r) z v
    | _ => none
  | .lrem => match S with
    | .inr (.inr (.inl y)) :: .inr (.inr (.inl x)) :: r => if y = 0 then none else cA1 L (.inr (.inr (.inl (x - x / y * y))) :: r) z v
    | _ => none
  | .lneg => match S with
    | .inr (.inr (.inl x)) :: r => cA1 L (.inr (.inr (.inl (-x))) :: r) z v
    | _ => none
  | .lshl => oShL (fun x y => x <<< (y.toInt64 &&& 63)) L S z v
  | .lushr => oShL (fun x y => (x.toUInt64 >>> (y.toInt64.toUInt64 &&& Int64.toUInt64 63)).toInt64) L S z v
  | .lcmp => match S with
    | .inr (.inr (.inl y)) :: .inr (.inr (.inl x)) :: r => cA1 L (.inl (lg_cmp x y).toInt :: r) z v
    | _ => none
  | .d2f => match S with
    | .inl y :: .inl x :: r => match sh4 r with
      | true => cA1 L (.inl (max x y) :: r) z v
      | false => none
    | _ => none
  | .d2i => match S with
    | .inl y :: .inl x :: r => match sh4 r with
      | true => cA1 L (.inl (min x y) :: r) z v
      | false => none
    | _ => none
  | .d2l => match S with
    | .inl x :: r => match sh4 r with
      | true => cA1 L (.inl (if 0 ≤ x then x else wr (0 - x)) :: r) z v
      | false => none
    | _ => none
  | .dadd => match S with
    | .inr (.inr (.inl x)) :: r => match sh4 r with
      | true => cA1 L (.inr (.inr (.inl (if 0 < x then x else -x))) :: r) z v
      | false => none
    | _ => none
  | .daload => match S with
    | .inr (.inr (.inl y)) :: .inr (.inr (.inl x)) :: r => match sh4 r with
      | true => cA1 L (.inr (.inr (.inl (if y < x then x else y))) :: r) z v
      | false => none
    | _ => none
  | .dup => match S with
    | .inl x :: r => cA1 L (.inl x :: .inl x :: r) z v
    | .inr (.inl x) :: r => cA1 L (.inr (.inl x) :: .inr (.inl x) :: r) z v
    | _ => none
  | .dup2 => match S with
    | .inl x :: .inr (.inl a) :: r => cA1 L (.inl x :: .inr (.inl a) :: .inl x :: .inr (.inl a) :: r) z v
    | _ => none
  | .pop => match S with
    | .inl _ :: r => cA1 L r z v
    | .inr (.inl _) :: r => cA1 L r z v
    | _ => none
  | .goto t => jA1 t L S z v
  | .ifCond c t => match S with
    | .inl x :: r => oIf c t x 0 L r z v
    | _ => none
  | .if_icmp c t => match S with
    | .inl y :: .inl x :: r => oIf c t x y L r z v
    | _ => none
  | .lookupswitch d ps => match S with
    | .inl x :: r => oSw ps.toList d x L r z v
    | _ => none
  | .getfield n => match S with
    | .inr (.inl a) :: r => if zh z a = n / 128 then cA1 L (.inl (v a (n % 128)) :: r) z v else none
    | _ => none
  | .instanceof n => match S with
    | .inr (.inl a) :: r => if zh z a = n / 128 then cA1 L (.inr (.inl (zr z a (n % 128))) :: r) z v else none
    | _ => none
  | .putfield n => match S with
    | .inl x :: .inr (.inl a) :: r => if zh z a = n / 128 then cA1 L r z (up v a (n % 128) x) else none
    | _ => none
  | .putstatic n => match S with
    | .inl x :: .inr (.inl a) :: r => if zh z a = n / 128 ∧ (x = 0 ∨ x = 1) then cA1 L r z (up v a (n % 128) x) else none
    | _ => none
  | .checkcast n => match S with
    | .inr (.inl b) :: .inr (.inl a) :: r => if zh z a = n / 128 then cA1 L r (upR z a (n % 128) b) v else none
    | _ => none
  | .new n => cA1 L (.inr (.inl z.1) :: S) (nwZ z (n / 128) 0 (n % 128)) (nwV v z.1)
  | .newarray t => match S with
    | .inl x :: r => if 0 ≤ x ∧ x ≤ 60000000 then cA1 L (.inr (.inl z.1) :: r) (nwZ z (match t with | .int => 100 | .char => 101 | .long => 102 | _ => 119) x.toNat x.toNat) (nwV v z.1) else none
    | _ => none
  | .anewarray _ => match S with
    | .inl x :: r => if 0 ≤ x ∧ x ≤ 60000000 then cA1 L (.inr (.inl z.1) :: r) (nwZ z 104 x.toNat x.toNat) (nwV v z.1) else none
    | _ => none
  | .multianewarray _ _ => match S with
    | .inl y :: .inl x :: r => if 0 ≤ x ∧ x ≤ 1000 ∧ 0 ≤ y ∧ y ≤ 1000 then cA1 L (.inr (.inl z.1) :: r) (nwZM z x.toNat y.toNat) (nwVM v z.1 x.toNat) else none
    | _ => none
  | .arraylength => match S with
    | .inr (.inl a) :: r => if 100 ≤ zh z a ∧ zh z a < 112 then cA1 L (.inl (zl z a) :: r) z v else none
    | _ => none
  | .iaload => match S with
    | .inl i :: .inr (.inl a) :: r => if (zh z a = 100 ∨ zh z a = 110) ∧ 0 ≤ i ∧ i < zl z a then cA1 L (.inl (v a i.toNat) :: r) z v else none
    | _ => none
  | .caload => match S with
    | .inl i :: .inr (.inl a) :: r => if zh z a = 101 ∧ 0 ≤ i ∧ i < zl z a then cA1 L (.inl (v a i.toNat) :: r) z v else none
    | _ => none
  | .baload => match S with
    | .inl i :: .inr (.inl a) :: r => if zh z a = 111 ∧ 0 ≤ i ∧ i < zl z a then cA1 L (.inl (v a i.toNat) :: r) z v else none
    | _ => none
  | .laload => match S with
    | .inl i :: .inr (.inl a) :: r => if zh z a = 102 ∧ 0 ≤ i ∧ i < zl z a then cA1 L (.inr (.inr (.inl (zw z a i.toNat))) :: r) z v else none
    | _ => none
  | .aaload => match S with
    | .inl i :: .inr (.inl a) :: r => if (zh z a = 104 ∨ zh z a = 105) ∧ 0 ≤ i ∧ i < zl z a then cA1 L (.inr (.inl (zr z a i.toNat)) :: r) z v else none
    | _ => none
  | .iastore => match S with
    | .inl x :: .inl i :: .inr (.inl a) :: r => if zh z a = 100 ∧ 0 ≤ i ∧ i < zl z a then cA1 L r z (up v a i.toNat x) else none
    | _ => none
  | .castore => match S with
    | .inl x :: .inl i :: .inr (.inl a) :: r => if zh z a = 101 ∧ 0 ≤ i ∧ i < zl z a then cA1 L r z (up v a i.toNat (x % 65536)) else none
    | _ => none
  | .lastore => match S with
    | .inr (.inr (.inl x)) :: .inl i :: .inr (.inl a) :: r => if zh z a = 102 ∧ 0 ≤ i ∧ i < zl z a then cA1 L r (upW z a i.toNat x) v else none
    | _ => none
  | .aastore => match S with
    | .inr (.inl b) :: .inl i :: .inr (.inl a) :: r => if zh z a = 104 ∧ zh z b = 6 ∧ 0 ≤ i ∧ i < zl z a then cA1 L r (upR z a i.toNat b) v else none
    | _ => none
  | .dneg => match S with
    | [.inl n, .inl dp, .inr (.inl b), .inl sp, .inr (.inl a)] => if zh z a = 100 ∧ zh z b = 100 ∧ 0 ≤ n ∧ 0 ≤ dp ∧ 0 ≤ sp ∧ sp + n ≤ zl z a ∧ dp + n ≤ zl z b then cA1 L [] z (cpV v a sp.toNat b dp.toNat n.toNat) else none
    | _ => none
  | .invokeinterface j c => match spl (c % 1000 / 2) S [] with
    | some (as, r) => match rcv (c / 1000) as z with
      | true => some (.inr (.inr (.inl (j, c % 2 == 1, as, L, r))))
      | false => none
    | none => none
  | .invokedynamic n => match splL (n % 4) S [] with
    | some (as, r) => some (.inr (.inr (.inl (n / 4, true, as, L, r))))
    | none => none
  | .monitorenter => match S with
    | [.inr (.inl a)] => if zh z a < 11 then cA1 L [] z v else none
    | _ => none
  | .ireturn => match S with
    | [.inl x] => rA1 z v (.inl x)
    | _ => none
  | .freturn => match S with
    | [.inl x] => if x = 0 ∨ x = 1 then rA1 z v (.inl x) else none
    | _ => none
  | .dreturn => match S with
    | [.inl x] => if 0 ≤ x ∧ x < 65536 then rA1 z v (.inl x) else none
    | _ => none
  | .areturn => match S with
    | [.inl x] => if -128 ≤ x ∧ x < 128 then rA1 z v (.inl x) else none
    | _ => none
  | .lreturn => match S with
    | [.inr (.inr (.inl x))] => rA1 z v (.inr (.inr (.inl x)))
    | _ => none
  | .return_ => match S with
    | [] => rA1 z v (.inl 0)
    | _ => none
  | _ => none
/-- a row of instructions: jumps and falling through go to K, calls to E, the end to Q -/
def xs (E : Nat → xZ → xV → List xv → (xZ → xV → xv → Prop) → Prop) (K : Nat → List xv → List xv → xZ → xV → Prop) (ft : Nat) (Q : xZ → xV → xv → Prop) : List Instr → List xv → List xv → xZ → xV → Prop
  | [], L, S, z, v => K ft L S z v
  | i :: is, L, S, z, v => match act i L S z v with
    | none => False
    | some (.inl (L', S', z', v')) => xs E K ft Q is L' S' z' v'
    | some (.inr (.inl (t, L', S', z', v'))) => K t L' S' z' v'
    | some (.inr (.inr (.inl (j, b, as, L', S')))) => E j z v as (fun z' v' r => xs E K ft Q is L' (match b with | true => r :: S' | false => S') z' v')
    | some (.inr (.inr (.inr (z', v', r)))) => Q z' v' r
/-- a method from a place on: the least that is closed under its blocks B (instructions, where it falls to) -/
def xGo (E : Nat → xZ → xV → List xv → (xZ → xV → xv → Prop) → Prop) (B : Nat → List Instr × Nat) (Q : xZ → xV → xv → Prop) (pc : Nat) (L S : List xv) (z : xZ) (v : xV) : Prop :=
  ∀ X : Nat → List xv → List xv → xZ → xV → Prop, (∀ pc L S z v, xs E X (B pc).2 Q (B pc).1 L S z v → X pc L S z v) → X pc L S z v
/-- method j of the table, called at depth d -/
def EvM (T : Nat → Nat → List Instr × Nat) : Nat → Nat → xZ → xV → List xv → (xZ → xV → xv → Prop) → Prop
  | 0, _, _, _, _, _ => False
  | d + 1, j, z, v, as, Q => xGo (EvM T d) (T j) Q 0 (lay as) [] z v
abbrev xMono (E E' : Nat → xZ → xV → List xv → (xZ → xV → xv → Prop) → Prop) : Prop := ∀ j z v as (Q Q' : xZ → xV → xv → Prop), (∀ z v r, Q z v r → Q' z v r) → E j z v as Q → E' j z v as Q'
theorem xs_mono {E E' : Nat → xZ → xV → List xv → (xZ → xV → xv → Prop) → Prop} {K K' : Nat → List xv → List xv → xZ → xV → Prop} {ft : Nat} {Q Q' : xZ → xV → xv → Prop} (hE : xMono E E') (hK : ∀ pc L S z v, K pc L S z v → K' pc L S z v) (hQ : ∀ z v r, Q z v r → Q' z v r) : ∀ (is : List Instr) (L S : List xv) (z : xZ) (v : xV), xs E K ft Q is L S z v → xs E' K' ft Q' is L S z v
  | [], L, S, z, v, h => hK _ _ _ _ _ h
  | i :: is, L, S, z, v, h => by
    unfold xs at h ⊢
    split at h
    · exact h
    · exact xs_mono hE hK hQ is _ _ _ _ h
    · exact hK _ _ _ _ _ h
    · exact hE _ _ _ _ _ _ (fun z v r q => xs_mono hE hK hQ is _ _ _ _ q) h
    · exact hQ _ _ _ h
theorem xGo_mono {E E' : Nat → xZ → xV → List xv → (xZ → xV → xv → Prop) → Prop} {B : Nat → List Instr × Nat} {Q Q' : xZ → xV → xv → Prop} (hE : xMono E E') (hQ : ∀ z v r, Q z v r → Q' z v r) {pc : Nat} {L S : List xv} {z : xZ} {v : xV} (h : xGo E B Q pc L S z v) : xGo E' B Q' pc L S z v :=
  fun X hX => h X fun pc L S z v q => hX pc L S z v (xs_mono hE (fun _ _ _ _ _ k => k) hQ _ _ _ _ _ q)
theorem EvM_mono (T : Nat → Nat → List Instr × Nat) : ∀ d, xMono (EvM T d) (EvM T d)
  | 0 => fun _ _ _ _ _ _ _ h => h
  | d + 1 => fun j z v as Q Q' hQ h => xGo_mono (EvM_mono T d) hQ h
theorem EvM_up (T : Nat → Nat → List Instr × Nat) : ∀ d, xMono (EvM T d) (EvM T (d + 1))
  | 0 => fun _ _ _ _ _ _ _ h => h.elim
  | d + 1 => fun j z v as Q Q' hQ h => xGo_mono (EvM_up T d) hQ h
theorem EvM_le (T : Nat → Nat → List Instr × Nat) {d : Nat} : ∀ e, xMono (EvM T d) (EvM T (d + e))
  | 0 => EvM_mono T d
  | e + 1 => fun j z v as Q Q' hQ h => EvM_up T (d + e) j z v as Q Q' hQ (EvM_le T e j z v as Q Q (fun _ _ _ h => h) h)
/-- a method's next block -/
theorem xGo_iff {E : Nat → xZ → xV → List xv → (xZ → xV → xv → Prop) → Prop} (hE : xMono E E) {B : Nat → List Instr × Nat} {Q : xZ → xV → xv → Prop} {pc : Nat} {L S : List xv} {z : xZ} {v : xV} : xGo E B Q pc L S z v ↔ xs E (xGo E B Q) (B pc).2 Q (B pc).1 L S z v := by
  have up1 : ∀ pc L S z v, xs E (xGo E B Q) (B pc).2 Q (B pc).1 L S z v → xGo E B Q pc L S z v :=
    fun pc L S z v h X hX => hX pc L S z v (xs_mono hE (fun _ _ _ _ _ k => k X hX) (fun _ _ _ h => h) _ _ _ _ _ h)
  constructor
  · intro h
    exact h (fun pc L S z v => xs E (xGo E B Q) (B pc).2 Q (B pc).1 L S z v) fun pc L S z v q => xs_mono hE up1 (fun _ _ _ h => h) _ _ _ _ _ q
  · exact up1 pc L S z v
/-- it is one outcome -/
abbrev xDet (E : Nat → xZ → xV → List xv → (xZ → xV → xv → Prop) → Prop) : Prop := ∀ j z v as (Q : xZ → xV → xv → Prop), E j z v as Q → ∃ z' v' r, Q z' v' r ∧ E j z v as (fun z1 v1 r1 => z1 = z' ∧ v1 = v' ∧ r1 = r)
theorem xs_det {E : Nat → xZ → xV → List xv → (xZ → xV → xv → Prop) → Prop} {B : Nat → List Instr × Nat} {ft : Nat} {Q : xZ → xV → xv → Prop} (hM : xMono E E) (hE : xDet E) : ∀ (is : List Instr) (L S : List xv) (z : xZ) (v : xV), xs E (fun pc L S z v => ∃ z' v' r, Q z' v' r ∧ xGo E B (fun z1 v1 r1 => z1 = z' ∧ v1 = v' ∧ r1 = r) pc L S z v) ft Q is L S z v → ∃ z' v' r, Q z' v' r ∧ xs E (xGo E B (fun z1 v1 r1 => z1 = z' ∧ v1 = v' ∧ r1 = r)) ft (fun z1 v1 r1 => z1 = z' ∧ v1 = v' ∧ r1 = r) is L S z v
  | [], L, S, z, v, h => h
  | i :: is, L, S, z, v, h => by
    unfold xs at h
    split at h
    · exact h.elim
    · rename_i e
      obtain ⟨z', v', r, q, k⟩ := xs_det hM hE is _ _ _ _ h
      refine ⟨z', v', r, q, ?_⟩
      unfold xs
      rw [e]
      exact k
    · rename_i e
      obtain ⟨z', v', r, q, k⟩ := h
      refine ⟨z', v', r, q, ?_⟩
      unfold xs
      rw [e]
      exact k
    · rename_i e
      obtain ⟨z1, v1, r1, q1, k1⟩ := hE _ _ _ _ _ h
      obtain ⟨z', v', r, q, k⟩ := xs_det hM hE is _ _ _ _ q1
      refine ⟨z', v', r, q, ?_⟩
      unfold xs
      rw [e]
      refine hM _ _ _ _ _ _ ?_ k1
      rintro _ _ _ ⟨rfl, rfl, rfl⟩
      exact k
    · rename_i e
      refine ⟨_, _, _, h, ?_⟩
      unfold xs
      rw [e]
      exact ⟨rfl, rfl, rfl⟩
theorem EvM_det (T : Nat → Nat → List Instr × Nat) : ∀ d, xDet (EvM T d)
  | 0 => fun _ _ _ _ _ h => h.elim
  | d + 1 => fun j z v as Q h => by
    refine h (fun pc L S z v => ∃ z' v' r, Q z' v' r ∧ xGo (EvM T d) (T j) (fun z1 v1 r1 => z1 = z' ∧ v1 = v' ∧ r1 = r) pc L S z v) ?_
    intro pc L S z v q
    obtain ⟨z', v', r, hq, k⟩ := xs_det (EvM_mono T d) (EvM_det T d) _ _ _ _ _ q
    exact ⟨z', v', r, hq, (xGo_iff (EvM_mono T d)).mpr k⟩
