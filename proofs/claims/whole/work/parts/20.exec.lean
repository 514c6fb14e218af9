/-! ===== running the small machine by rewriting ===== -/
def ldI : xv → (Int → Prop) → Prop
  | .inl x, f => f x
  | _, _ => False
def ldA : xv → (Nat → Prop) → Prop
  | .inr (.inl x), f => f x
  | _, _ => False
def ldL : xv → (Int64 → Prop) → Prop
  | .inr (.inr (.inl x)), f => f x
  | _, _ => False
def psh : Bool → xv → List xv → List xv
  | true, x, r => x :: r
  | false, _, r => r
theorem ldI_i (x : Int) (f : Int → Prop) : ldI (.inl x) f = f x := rfl
theorem ldA_a (x : Nat) (f : Nat → Prop) : ldA (.inr (.inl x)) f = f x := rfl
theorem ldL_l (x : Int64) (f : Int64 → Prop) : ldL (.inr (.inr (.inl x))) f = f x := rfl
theorem nth_0 (a : xv) (l : List xv) : nth (a :: l) 0 = a := rfl
theorem nth_s (a : xv) (l : List xv) (k : Nat) : nth (a :: l) (k + 1) = nth l k := rfl
theorem sto_n0 (x : xv) : sto [] 0 x = [x] := rfl
theorem sto_ns (k : Nat) (x : xv) : sto [] (k + 1) x = .inr (.inr (.inr ())) :: sto [] k x := rfl
theorem sto_0 (a : xv) (l : List xv) (x : xv) : sto (a :: l) 0 x = x :: l := rfl
theorem sto_i (a : Int) (l : List xv) (k : Nat) (x : xv) : sto (.inl a :: l) (k + 1) x = .inl a :: sto l k x := rfl
theorem sto_a (a : Nat) (l : List xv) (k : Nat) (x : xv) : sto (.inr (.inl a) :: l) (k + 1) x = .inr (.inl a) :: sto l k x := rfl
theorem sto_l0 (a : Int64 ⊕ Unit) (l : List xv) (x : xv) : sto (.inr (.inr a) :: l) 1 x = .inr (.inr (.inr ())) :: sto l 0 x := rfl
theorem sto_ls (a : Int64 ⊕ Unit) (l : List xv) (k : Nat) (x : xv) : sto (.inr (.inr a) :: l) (k + 2) x = .inr (.inr a) :: sto l (k + 1) x := rfl
theorem psh_t (x : xv) (r : List xv) : psh true x r = x :: r := rfl
theorem psh_f (x : xv) (r : List xv) : psh false x r = r := rfl
theorem lay_n : lay [] = [] := rfl
theorem lay_i (x : Int) (l : List xv) : lay (.inl x :: l) = .inl x :: lay l := rfl
theorem lay_a (x : Nat) (l : List xv) : lay (.inr (.inl x) :: l) = .inr (.inl x) :: lay l := rfl
theorem lay_l (x : Int64) (l : List xv) : lay (.inr (.inr (.inl x)) :: l) = .inr (.inr (.inl x)) :: .inr (.inr (.inr ())) :: lay l := rfl
theorem e_ev (T : Nat → Nat → List Instr × Nat) (d j : Nat) (z : xZ) (v : xV) (as : List xv) (Q : xZ → xV → xv → Prop) : EvM T (d + 1) j z v as Q = xGo (EvM T d) (T j) Q 0 (lay as) [] z v := rfl
section XR
variable {E : Nat → xZ → xV → List xv → (xZ → xV → xv → Prop) → Prop} {K : Nat → List xv → List xv → xZ → xV → Prop} {ft : Nat} {Q : xZ → xV → xv → Prop} {is : List Instr} {L S : List xv} {z : xZ} {v : xV}
theorem x_nil : xs E K ft Q [] L S z v = K ft L S z v := rfl
theorem x_iconst {c : Int} : xs E K ft Q (.iconst c :: is) L S z v = xs E K ft Q is L (.inl c :: S) z v := rfl
theorem x_lconst {c : Int} : xs E K ft Q (.sipush c :: is) L S z v = xs E K ft Q is L (.inr (.inr (.inl (Int64.ofInt c))) :: S) z v := rfl
theorem x_ldc {a : Nat} : xs E K ft Q (.ldc a :: is) L S z v = xs E K ft Q is L (.inr (.inl a) :: S) z v := rfl
theorem x_iload {k : Nat} : xs E K ft Q (.iload k :: is) L S z v = ldI (nth L k) (fun x => xs E K ft Q is L (.inl x :: S) z v) := by
  rw [xs, act, oLoad]
  cases nth L k with
  | inl x => rfl
  | inr y => rfl
theorem x_aload {k : Nat} : xs E K ft Q (.aload k :: is) L S z v = ldA (nth L k) (fun x => xs E K ft Q is L (.inr (.inl x) :: S) z v) := by
  rw [xs, act, oLoadA]
  match nth L k with
  | .inl x => rfl
  | .inr (.inl y) => rfl
  | .inr (.inr y) => rfl
theorem x_lload {k : Nat} : xs E K ft Q (.lload k :: is) L S z v = ldL (nth L k) (fun x => xs E K ft Q is L (.inr (.inr (.inl x)) :: S) z v) := by
  rw [xs, act, oLoadL]
  match nth L k with
  | .inl x => rfl
  | .inr (.inl y) => rfl
  | .inr (.inr (.inl y)) => rfl
  | .inr (.inr (.inr y)) => rfl
theorem x_istore {k : Nat} {x : Int} : xs E K ft Q (.istore k :: is) L (.inl x :: S) z v = xs E K ft Q is (sto L k (.inl x)) S z v := rfl
theorem x_astore {k x : Nat} : xs E K ft Q (.astore k :: is) L (.inr (.inl x) :: S) z v = xs E K ft Q is (sto L k (.inr (.inl x))) S z v := rfl
theorem x_lstore {k : Nat} {x : Int64} : xs E K ft Q (.lstore k :: is) L (.inr (.inr (.inl x)) :: S) z v = xs E K ft Q is (stoL L k (.inr (.inr (.inl x)))) S z v := rfl
theorem x_iinc {k : Nat} {c : Int} : xs E K ft Q (.iinc k c :: is) L S z v = ldI (nth L k) (fun x => xs E K ft Q is (sto L k (.inl (wr (x + c)))) S z v) := by
  rw [xs, act, oInc]
  cases nth L k with
  | inl x => rfl
  | inr y => rfl
theorem x_iadd {x y : Int} : xs E K ft Q (.iadd :: is) L (.inl y :: .inl x :: S) z v = xs E K ft Q is L (.inl (wr (x + y)) :: S) z v := rfl
theorem x_isub {x y : Int} : xs E K ft Q (.isub :: is) L (.inl y :: .inl x :: S) z v = xs E K ft Q is L (.inl (wr (x - y)) :: S) z v := rfl
theorem x_imul {x y : Int} : xs E K ft Q (.imul :: is) L (.inl y :: .inl x :: S) z v = xs E K ft Q is L (.inl (wr (x * y)) :: S) z v := rfl
theorem x_idiv {x y : Int} : xs E K ft Q (.idiv :: is) L (.inl y :: .inl x :: S) z v = (y ≠ 0 ∧ xs E K ft Q is L (.inl (wr (x.tdiv y)) :: S) z v) := by
  rw [xs, act]
  by_cases h : y = 0 <;> simp [h, cA1]
theorem x_irem {x y : Int} : xs E K ft Q (.irem :: is) L (.inl y :: .inl x :: S) z v = (y ≠ 0 ∧ xs E K ft Q is L (.inl (x.tmod y) :: S) z v) := by
  rw [xs, act]
  by_cases h : y = 0 <;> simp [h, cA1]
theorem x_ineg {x : Int} : xs E K ft Q (.ineg :: is) L (.inl x :: S) z v = xs E K ft Q is L (.inl (wr (-x)) :: S) z v := rfl
theorem x_iand {x y : Int} : xs E K ft Q (.iand :: is) L (.inl y :: .inl x :: S) z v = xs E K ft Q is L (.inl (b32 (· &&& ·) x y) :: S) z v := rfl
theorem x_ior {x y : Int} : xs E K ft Q (.ior :: is) L (.inl y :: .inl x :: S) z v = xs E K ft Q is L (.inl (b32 (· ||| ·) x y) :: S) z v := rfl
theorem x_ixor {x y : Int} : xs E K ft Q (.ixor :: is) L (.inl y :: .inl x :: S) z v = xs E K ft Q is L (.inl (b32 (· ^^^ ·) x y) :: S) z v := rfl
theorem x_ishl {x y : Int} : xs E K ft Q (.ishl :: is) L (.inl y :: .inl x :: S) z v = xs E K ft Q is L (.inl (b32 (fun x y => x <<< (y &&& 31)) x y) :: S) z v := rfl
theorem x_ishr {x y : Int} : xs E K ft Q (.ishr :: is) L (.inl y :: .inl x :: S) z v = xs E K ft Q is L (.inl (b32 (fun x y => x >>> (y &&& 31)) x y) :: S) z v := rfl
theorem x_iushr {x y : Int} : xs E K ft Q (.iushr :: is) L (.inl y :: .inl x :: S) z v = xs E K ft Q is L (.inl (b32 (fun x y => (x.toUInt32 >>> (y.toUInt32 &&& Int32.toUInt32 31)).toInt32) x y) :: S) z v := rfl
theorem x_i2b {x : Int} : xs E K ft Q (.i2b :: is) L (.inl x :: S) z v = xs E K ft Q is L (.inl (Int32.ofInt x).toInt8.toInt32.toInt :: S) z v := rfl
theorem x_i2c {x : Int} : xs E K ft Q (.i2c :: is) L (.inl x :: S) z v = xs E K ft Q is L (.inl (x % 65536) :: S) z v := rfl
theorem x_i2l {x : Int} : xs E K ft Q (.i2l :: is) L (.inl x :: S) z v = xs E K ft Q is L (.inr (.inr (.inl (Int32.ofInt x).toInt64)) :: S) z v := rfl
theorem x_l2i {x : Int64} : xs E K ft Q (.l2i :: is) L (.inr (.inr (.inl x)) :: S) z v = xs E K ft Q is L (.inl x.toInt32.toInt :: S) z v := rfl
theorem x_ladd {x y : Int64} : xs E K ft Q (.ladd :: is) L (.inr (.inr (.inl y)) :: .inr (.inr (.inl x)) :: S) z v = xs E K ft Q is L (.inr (.inr (.inl (x + y))) :: S) z v := rfl
theorem x_lsub {x y : Int64} : xs E K ft Q (.lsub :: is) L (.inr (.inr (.inl y)) :: .inr (.inr (.inl x)) :: S) z v = xs E K ft Q is L (.inr (.inr (.inl (x - y))) :: S) z v := rfl
theorem x_lmul {x y : Int64} : xs E K ft Q (.lmul :: is) L (.inr (.inr (.inl y)) :: .inr (.inr (.inl x)) :: S) z v = xs E K ft Q is L (.inr (.inr (.inl (x * y))) :: S) z v := rfl
theorem x_land {x y : Int64} : xs E K ft Q (.land :: is) L (.inr (.inr (.inl y)) :: .inr (.inr (.inl x)) :: S) z v = xs E K ft Q is L (.inr (.inr (.inl (x &&& y))) :: S) z v := rfl
theorem x_lor {x y : Int64} : xs E K ft Q (.lor :: is) L (.inr (.inr (.inl y)) :: .inr (.inr (.inl x)) :: S) z v = xs E K ft Q is L (.inr (.inr (.inl (x ||| y))) :: S) z v := rfl
theorem x_lxor {x y : Int64} : xs E K ft Q (.lxor :: is) L (.inr (.inr (.inl y)) :: .inr (.inr (.inl x)) :: S) z v = xs E K ft Q is L (.inr (.inr (.inl (x ^^^ y))) :: S) z v := rfl
theorem x_ldiv {x y : Int64} : xs E K ft Q (.ldiv :: is) L (.inr (.inr (.inl y)) :: .inr (.inr (.inl x)) :: S) z v = (y ≠ 0 ∧ xs E K ft Q is L (.inr (.inr (.inl (x / y))) :: S) z v) := by
  rw [xs, act]
  by_cases h : y = 0 <;> simp [h, cA1]
theorem x_lrem {x y : Int64} : xs E K ft Q (.lrem :: is) L (.inr (.inr (.inl y)) :: .inr (.inr (.inl x)) :: S) z v = (y ≠ 0 ∧ xs E K ft Q is L (.inr (.inr (.inl (x - x / y * y))) :: S) z v) := by
  rw [xs, act]
  by_cases h : y = 0 <;> simp [h, cA1]
theorem x_lneg {x : Int64} : xs E K ft Q (.lneg :: is) L (.inr (.inr (.inl x)) :: S) z v = xs E K ft Q is L (.inr (.inr (.inl (-x))) :: S) z v := rfl
theorem x_lshl {x : Int64} {y : Int} : xs E K ft Q (.lshl :: is) L (.inl y :: .inr (.inr (.inl x)) :: S) z v = xs E K ft Q is L (.inr (.inr (.inl (x <<< ((Int32.ofInt y).toInt64 &&& 63)))) :: S) z v := rfl
theorem x_lushr {x : Int64} {y : Int} : xs E K ft Q (.lushr :: is) L (.inl y :: .inr (.inr (.inl x)) :: S) z v = xs E K ft Q is L (.inr (.inr (.inl (x.toUInt64 >>> ((Int32.ofInt y).toInt64.toUInt64 &&& Int64.toUInt64 63)).toInt64)) :: S) z v := rfl
theorem x_lcmp {x y : Int64} : xs E K ft Q (.lcmp :: is) L (.inr (.inr (.inl y)) :: .inr (.inr (.inl x)) :: S) z v = xs E K ft Q is L (.inl (lg_cmp x y).toInt :: S) z v := rfl
theorem x_max {x y : Int} : xs E K ft Q (.d2f :: is) L (.inl y :: .inl x :: S) z v = (sh4 S = true ∧ xs E K ft Q is L (.inl (max x y) :: S) z v) := by
  rw [xs, act]
  cases h : sh4 S <;> simp [h, cA1]
theorem x_min {x y : Int} : xs E K ft Q (.d2i :: is) L (.inl y :: .inl x :: S) z v = (sh4 S = true ∧ xs E K ft Q is L (.inl (min x y) :: S) z v) := by
  rw [xs, act]
  cases h : sh4 S <;> simp [h, cA1]
theorem x_abs {x : Int} : xs E K ft Q (.d2l :: is) L (.inl x :: S) z v = (sh4 S = true ∧ xs E K ft Q is L (.inl (if 0 ≤ x then x else wr (0 - x)) :: S) z v) := by
  rw [xs, act]
  cases h : sh4 S <;> simp [h, cA1]
theorem x_labs {x : Int64} : xs E K ft Q (.dadd :: is) L (.inr (.inr (.inl x)) :: S) z v = (sh4 S = true ∧ xs E K ft Q is L (.inr (.inr (.inl (if 0 < x then x else -x))) :: S) z v) := by
  rw [xs, act]
  cases h : sh4 S <;> simp [h, cA1]
theorem x_lmax {x y : Int64} : xs E K ft Q (.daload :: is) L (.inr (.inr (.inl y)) :: .inr (.inr (.inl x)) :: S) z v = (sh4 S = true ∧ xs E K ft Q is L (.inr (.inr (.inl (if y < x then x else y))) :: S) z v) := by
  rw [xs, act]
  cases h : sh4 S <;> simp [h, cA1]
theorem x_dupI {x : Int} : xs E K ft Q (.dup :: is) L (.inl x :: S) z v = xs E K ft Q is L (.inl x :: .inl x :: S) z v := rfl
theorem x_dupA {x : Nat} : xs E K ft Q (.dup :: is) L (.inr (.inl x) :: S) z v = xs E K ft Q is L (.inr (.inl x) :: .inr (.inl x) :: S) z v := rfl
theorem x_dup2 {x : Int} {a : Nat} : xs E K ft Q (.dup2 :: is) L (.inl x :: .inr (.inl a) :: S) z v = xs E K ft Q is L (.inl x :: .inr (.inl a) :: .inl x :: .inr (.inl a) :: S) z v := rfl
theorem x_popI {x : Int} : xs E K ft Q (.pop :: is) L (.inl x :: S) z v = xs E K ft Q is L S z v := rfl
theorem x_popA {x : Nat} : xs E K ft Q (.pop :: is) L (.inr (.inl x) :: S) z v = xs E K ft Q is L S z v := rfl
theorem x_goto {t : Int} : xs E K ft Q (.goto t :: is) L S z v = K t.toNat L S z v := rfl
theorem x_eq {t x : Int} : xs E K ft Q (.ifCond .eq t :: is) L (.inl x :: S) z v = (if x = 0 then K t.toNat L S z v else xs E K ft Q is L S z v) := by
  rw [xs, act]
  simp only [oIf]
  by_cases h : x = 0 <;> simp [h, cA1, jA1]
theorem x_ne {t x : Int} : xs E K ft Q (.ifCond .ne t :: is) L (.inl x :: S) z v = (if x = 0 then xs E K ft Q is L S z v else K t.toNat L S z v) := by
  rw [xs, act]
  simp only [oIf]
  by_cases h : x = 0 <;> simp [h, cA1, jA1]
theorem x_lt {t x : Int} : xs E K ft Q (.ifCond .lt t :: is) L (.inl x :: S) z v = (if x < 0 then K t.toNat L S z v else xs E K ft Q is L S z v) := by
  rw [xs, act]
  simp only [oIf]
  by_cases h : x < 0 <;> simp [h, cA1, jA1]
theorem x_ge {t x : Int} : xs E K ft Q (.ifCond .ge t :: is) L (.inl x :: S) z v = (if x < 0 then xs E K ft Q is L S z v else K t.toNat L S z v) := by
  rw [xs, act]
  simp only [oIf]
  by_cases h : x < 0 <;> simp [h, cA1, jA1]
theorem x_gt {t x : Int} : xs E K ft Q (.ifCond .gt t :: is) L (.inl x :: S) z v = (if 0 < x then K t.toNat L S z v else xs E K ft Q is L S z v) := by
  rw [xs, act]
  simp only [oIf]
  by_cases h : 0 < x <;> simp [h, cA1, jA1]
theorem x_le {t x : Int} : xs E K ft Q (.ifCond .le t :: is) L (.inl x :: S) z v = (if 0 < x then xs E K ft Q is L S z v else K t.toNat L S z v) := by
  rw [xs, act]
  simp only [oIf]
  by_cases h : 0 < x <;> simp [h, cA1, jA1]
theorem x_ceq {t x y : Int} : xs E K ft Q (.if_icmp .eq t :: is) L (.inl y :: .inl x :: S) z v = (if x = y then K t.toNat L S z v else xs E K ft Q is L S z v) := by
  rw [xs, act]
  simp only [oIf]
  by_cases h : x = y <;> simp [h, cA1, jA1]
theorem x_cne {t x y : Int} : xs E K ft Q (.if_icmp .ne t :: is) L (.inl y :: .inl x :: S) z v = (if x = y then xs E K ft Q is L S z v else K t.toNat L S z v) := by
  rw [xs, act]
  simp only [oIf]
  by_cases h : x = y <;> simp [h, cA1, jA1]
theorem x_clt {t x y : Int} : xs E K ft Q (.if_icmp .lt t :: is) L (.inl y :: .inl x :: S) z v = (if x < y then K t.toNat L S z v else xs E K ft Q is L S z v) := by
  rw [xs, act]
  simp only [oIf]
  by_cases h : x < y <;> simp [h, cA1, jA1]
theorem x_cge {t x y : Int} : xs E K ft Q (.if_icmp .ge t :: is) L (.inl y :: .inl x :: S) z v = (if x < y then xs E K ft Q is L S z v else K t.toNat L S z v) := by
  rw [xs, act]
  simp only [oIf]
  by_cases h : x < y <;> simp [h, cA1, jA1]
theorem x_cgt {t x y : Int} : xs E K ft Q (.if_icmp .gt t :: is) L (.inl y :: .inl x :: S) z v = (if y < x then K t.toNat L S z v else xs E K ft Q is L S z v) := by
  rw [xs, act]
  simp only [oIf]
  by_cases h : y < x <;> simp [h, cA1, jA1]
theorem x_cle {t x y : Int} : xs E K ft Q (.if_icmp .le t :: is) L (.inl y :: .inl x :: S) z v = (if y < x then xs E K ft Q is L S z v else K t.toNat L S z v) := by
  rw [xs, act]
  simp only [oIf]
  by_cases h : y < x <;> simp [h, cA1, jA1]
/-- a switch as a row of tests -/
def swK (K : Nat → List xv → List xv → xZ → xV → Prop) (d : Int) (L S : List xv) (z : xZ) (v : xV) (x : Int) : List (Int × Int) → Prop
  | [] => K d.toNat L S z v
  | (k, t) :: ps => if x = k then K t.toNat L S z v else swK K d L S z v x ps
theorem x_sw {d x : Int} {ps : Array (Int × Int)} : xs E K ft Q (.lookupswitch d ps :: is) L (.inl x :: S) z v = swK K d L S z v x ps.toList := by
  rw [xs, act]
  generalize ps.toList = qs
  induction qs with
  | nil => rfl
  | cons q qs ih =>
    obtain ⟨k, t⟩ := q
    unfold oSw swK
    by_cases h : x = k
    · simp [h, jA1]
    · simp only [h, if_false]
      exact ih
theorem x_getI {n a : Nat} : xs E K ft Q (.getfield n :: is) L (.inr (.inl a) :: S) z v = (zh z a = n / 128 ∧ xs E K ft Q is L (.inl (v a (n % 128)) :: S) z v) := by
  rw [xs, act]
  by_cases h : zh z a = n / 128 <;> simp [h, cA1]
theorem x_getR {n a : Nat} : xs E K ft Q (.instanceof n :: is) L (.inr (.inl a) :: S) z v = (zh z a = n / 128 ∧ xs E K ft Q is L (.inr (.inl (zr z a (n % 128))) :: S) z v) := by
  rw [xs, act]
  by_cases h : zh z a = n / 128 <;> simp [h, cA1]
theorem x_putI {n a : Nat} {x : Int} : xs E K ft Q (.putfield n :: is) L (.inl x :: .inr (.inl a) :: S) z v = (zh z a = n / 128 ∧ xs E K ft Q is L S z (up v a (n % 128) x)) := by
  rw [xs, act]
  by_cases h : zh z a = n / 128 <;> simp [h, cA1]
theorem x_putZ {n a : Nat} {x : Int} : xs E K ft Q (.putstatic n :: is) L (.inl x :: .inr (.inl a) :: S) z v = (zh z a = n / 128 ∧ (x = 0 ∨ x = 1) ∧ xs E K ft Q is L S z (up v a (n % 128) x)) := by
  rw [xs, act]
  by_cases h : zh z a = n / 128 <;> by_cases h2 : x = 0 ∨ x = 1 <;> simp [h, h2, cA1]
theorem x_putR {n a b : Nat} : xs E K ft Q (.checkcast n :: is) L (.inr (.inl b) :: .inr (.inl a) :: S) z v = (zh z a = n / 128 ∧ xs E K ft Q is L S (upR z a (n % 128) b) v) := by
  rw [xs, act]
  by_cases h : zh z a = n / 128 <;> simp [h, cA1]
theorem x_new {n : Nat} : xs E K ft Q (.new n :: is) L S z v = xs E K ft Q is L (.inr (.inl z.1) :: S) (nwZ z (n / 128) 0 (n % 128)) (nwV v z.1) := rfl
theorem x_newI {x : Int} : xs E K ft Q (.newarray .int :: is) L (.inl x :: S) z v = ((0 ≤ x ∧ x ≤ 60000000) ∧ xs E K ft Q is L (.inr (.inl z.1) :: S) (nwZ z 100 x.toNat x.toNat) (nwV v z.1)) := by
  rw [xs, act]
  by_cases h : 0 ≤ x ∧ x ≤ 60000000 <;> simp [h, cA1]
theorem x_newC {x : Int} : xs E K ft Q (.newarray .char :: is) L (.inl x :: S) z v = ((0 ≤ x ∧ x ≤ 60000000) ∧ xs E K ft Q is L (.inr (.inl z.1) :: S) (nwZ z 101 x.toNat x.toNat) (nwV v z.1)) := by
  rw [xs, act]
  by_cases h : 0 ≤ x ∧ x ≤ 60000000 <;> simp [h, cA1]
theorem x_newL {x : Int} : xs E K ft Q (.newarray .long :: is) L (.inl x :: S) z v = ((0 ≤ x ∧ x ≤ 60000000) ∧ xs E K ft Q is L (.inr (.inl z.1) :: S) (nwZ z 102 x.toNat x.toNat) (nwV v z.1)) := by
  rw [xs, act]
  by_cases h : 0 ≤ x ∧ x ≤ 60000000 <;> simp [h, cA1]
theorem x_anew {n : Nat} {x : Int} : xs E K ft Q (.anewarray n :: is) L (.inl x :: S) z v = ((0 ≤ x ∧ x ≤ 60000000) ∧ xs E K ft Q is L (.inr (.inl z.1) :: S) (nwZ z 104 x.toNat x.toNat) (nwV v z.1)) := by
  rw [xs, act]
  by_cases h : 0 ≤ x ∧ x ≤ 60000000 <;> simp [h, cA1]
theorem x_multi {n k : Nat} {x y : Int} : xs E K ft Q (.multianewarray n k :: is) L (.inl y :: .inl x :: S) z v = ((0 ≤ x ∧ x ≤ 1000 ∧ 0 ≤ y ∧ y ≤ 1000) ∧ xs E K ft Q is L (.inr (.inl z.1) :: S) (nwZM z x.toNat y.toNat) (nwVM v z.1 x.toNat)) := by
  rw [xs, act]
  by_cases h : 0 ≤ x ∧ x ≤ 1000 ∧ 0 ≤ y ∧ y ≤ 1000 <;> simp [h, cA1]
theorem x_alen {a : Nat} : xs E K ft Q (.arraylength :: is) L (.inr (.inl a) :: S) z v = ((100 ≤ zh z a ∧ zh z a < 112) ∧ xs E K ft Q is L (.inl (zl z a) :: S) z v) := by
  rw [xs, act]
  by_cases h : 100 ≤ zh z a ∧ zh z a < 112 <;> simp [h, cA1]
theorem x_iald {i : Int} {a : Nat} : xs E K ft Q (.iaload :: is) L (.inl i :: .inr (.inl a) :: S) z v = ((zh z a = 100 ∨ zh z a = 110) ∧ (0 ≤ i ∧ i < zl z a) ∧ xs E K ft Q is L (.inl (v a i.toNat) :: S) z v) := by
  rw [xs, act]
  by_cases h : zh z a = 100 ∨ zh z a = 110 <;> by_cases h2 : 0 ≤ i ∧ i < zl z a <;> simp [h, h2, cA1]
theorem x_cald {i : Int} {a : Nat} : xs E K ft Q (.caload :: is) L (.inl i :: .inr (.inl a) :: S) z v = (zh z a = 101 ∧ (0 ≤ i ∧ i < zl z a) ∧ xs E K ft Q is L (.inl (v a i.toNat) :: S) z v) := by
  rw [xs, act]
  by_cases h : zh z a = 101 <;> by_cases h2 : 0 ≤ i ∧ i < zl z a <;> simp [h, h2, cA1]
theorem x_bald {i : Int} {a : Nat} : xs E K ft Q (.baload :: is) L (.inl i :: .inr (.inl a) :: S) z v = (zh z a = 111 ∧ (0 ≤ i ∧ i < zl z a) ∧ xs E K ft Q is L (.inl (v a i.toNat) :: S) z v) := by
  rw [xs, act]
  by_cases h : zh z a = 111 <;> by_cases h2 : 0 ≤ i ∧ i < zl z a <;> simp [h, h2, cA1]
theorem x_lald {i : Int} {a : Nat} : xs E K ft Q (.laload :: is) L (.inl i :: .inr (.inl a) :: S) z v = (zh z a = 102 ∧ (0 ≤ i ∧ i < zl z a) ∧ xs E K ft Q is L (.inr (.inr (.inl (zw z a i.toNat))) :: S) z v) := by
  rw [xs, act]
  by_cases h : zh z a = 102 <;> by_cases h2 : 0 ≤ i ∧ i < zl z a <;> simp [h, h2, cA1]
theorem x_aald {i : Int} {a : Nat} : xs E K ft Q (.aaload :: is) L (.inl i :: .inr (.inl a) :: S) z v = ((zh z a = 104 ∨ zh z a = 105) ∧ (0 ≤ i ∧ i < zl z a) ∧ xs E K ft Q is L (.inr (.inl (zr z a i.toNat)) :: S) z v) := by
  rw [xs, act]
  by_cases h : zh z a = 104 ∨ zh z a = 105 <;> by_cases h2 : 0 ≤ i ∧ i < zl z a <;> simp [h, h2, cA1]
theorem x_iast {x i : Int} {a : Nat} : xs E K ft Q (.iastore :: is) L (.inl x :: .inl i :: .inr (.inl a) :: S) z v = (zh z a = 100 ∧ (0 ≤ i ∧ i < zl z a) ∧ xs E K ft Q is L S z (up v a i.toNat x)) := by
  rw [xs, act]
  by_cases h : zh z a = 100 <;> by_cases h2 : 0 ≤ i ∧ i < zl z a <;> simp [h, h2, cA1]
theorem x_cast {x i : Int} {a : Nat} : xs E K ft Q (.castore :: is) L (.inl x :: .inl i :: .inr (.inl a) :: S) z v = (zh z a = 101 ∧ (0 ≤ i ∧ i < zl z a) ∧ xs E K ft Q is L S z (up v a i.toNat (x % 65536))) := by
  rw [xs, act]
  by_cases h : zh z a = 101 <;> by_cases h2 : 0 ≤ i ∧ i < zl z a <;> simp [h, h2, cA1]
theorem x_last {x : Int64} {i : Int} {a : Nat} : xs E K ft Q (.lastore :: is) L (.inr (.inr (.inl x)) :: .inl i :: .inr (.inl a) :: S) z v = (zh z a = 102 ∧ (0 ≤ i ∧ i < zl z a) ∧ xs E K ft Q is L S (upW z a i.toNat x) v) := by
  rw [xs, act]
  by_cases h : zh z a = 102 <;> by_cases h2 : 0 ≤ i ∧ i < zl z a <;> simp [h, h2, cA1]
theorem x_aast {b a : Nat} {i : Int} : xs E K ft Q (.aastore :: is) L (.inr (.inl b) :: .inl i :: .inr (.inl a) :: S) z v = ((zh z a = 104 ∧ zh z b = 6) ∧ (0 ≤ i ∧ i < zl z a) ∧ xs E K ft Q is L S (upR z a i.toNat b) v) := by
  rw [xs, act]
  by_cases h : zh z a = 104 <;> by_cases h3 : zh z b = 6 <;> by_cases h2 : 0 ≤ i ∧ i < zl z a <;> simp [h, h2, h3, cA1]
theorem x_copy {n dp sp : Int} {a b : Nat} : xs E K ft Q (.dneg :: is) L [.inl n, .inl dp, .inr (.inl b), .inl sp, .inr (.inl a)] z v = ((zh z a = 100 ∧ zh z b = 100) ∧ (0 ≤ n ∧ 0 ≤ dp ∧ 0 ≤ sp ∧ sp + n ≤ zl z a ∧ dp + n ≤ zl z b) ∧ xs E K ft Q is L [] z (cpV v a sp.toNat b dp.toNat n.toNat)) := by
  rw [xs, act]
  by_cases h : zh z a = 100 <;> by_cases h3 : zh z b = 100 <;> by_cases h2 : 0 ≤ n ∧ 0 ≤ dp ∧ 0 ≤ sp ∧ sp + n ≤ zl z a ∧ dp + n ≤ zl z b <;> simp [h, h2, h3, cA1]
theorem x_obj {a : Nat} : xs E K ft Q (.monitorenter :: is) L [.inr (.inl a)] z v = (zh z a < 11 ∧ xs E K ft Q is L [] z v) := by
  rw [xs, act]
  by_cases h : zh z a < 11 <;> simp [h, cA1]
theorem x_call {j c : Nat} : xs E K ft Q (.invokeinterface j c :: is) L S z v = (match spl (c % 1000 / 2) S [] with
    | some (as, r) => rcv (c / 1000) as z = true ∧ E j z v as (fun z' v' x => xs E K ft Q is L (psh (c % 2 == 1) x r) z' v')
    | none => False) := by
  rw [xs, act]
  cases spl (c % 1000 / 2) S [] with
  | none => rfl
  | some q =>
    obtain ⟨as, r⟩ := q
    simp only
    cases rcv (c / 1000) as z with
    | false => simp
    | true =>
      simp only [true_and]
      congr 1
      funext z' v' x
      cases c % 2 == 1 <;> rfl
theorem x_callL {n : Nat} : xs E K ft Q (.invokedynamic n :: is) L S z v = (match splL (n % 4) S [] with
    | some (as, r) => E (n / 4) z v as (fun z' v' x => xs E K ft Q is L (x :: r) z' v')
    | none => False) := by
  rw [xs, act]
  cases splL (n % 4) S [] with
  | none => rfl
  | some q => rfl
theorem x_iret {x : Int} : xs E K ft Q (.ireturn :: is) L [.inl x] z v = Q z v (.inl x) := rfl
theorem x_zret {x : Int} : xs E K ft Q (.freturn :: is) L [.inl x] z v = ((x = 0 ∨ x = 1) ∧ Q z v (.inl x)) := by
  rw [xs, act]
  by_cases h : x = 0 ∨ x = 1 <;> simp [h, rA1]
theorem x_cret {x : Int} : xs E K ft Q (.dreturn :: is) L [.inl x] z v = ((0 ≤ x ∧ x < 65536) ∧ Q z v (.inl x)) := by
  rw [xs, act]
  by_cases h : 0 ≤ x ∧ x < 65536 <;> simp [h, rA1]
theorem x_bret {x : Int} : xs E K ft Q (.areturn :: is) L [.inl x] z v = ((-128 ≤ x ∧ x < 128) ∧ Q z v (.inl x)) := by
  rw [xs, act]
  by_cases h : -128 ≤ x ∧ x < 128 <;> simp [h, rA1]
theorem x_lret {x : Int64} : xs E K ft Q (.lreturn :: is) L [.inr (.inr (.inl x))] z v = Q z v (.inr (.inr (.inl x))) := rfl
theorem x_ret : xs E K ft Q (.return_ :: is) L [] z v = Q z v (.inl 0) := rfl
end XR
