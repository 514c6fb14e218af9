/-! ===== Int and Int32 ===== -/
theorem toI_of {x : Int} (h : rg x) : (Int32.ofInt x).toInt = x := by
  rw [Int32.toInt_ofInt]
  unfold rg at h
  show Int.bmod x 4294967296 = x
  unfold Int.bmod
  dsimp only
  split <;> omega
theorem rg_toInt (i : Int32) : rg i.toInt := ⟨Int32.le_toInt i, Int32.toInt_lt i⟩
theorem rg_wr (x : Int) : rg (wr x) := by
  unfold rg wr Int.bmod
  dsimp only
  split <;> omega
theorem wr_id {x : Int} (h1 : -2147483648 ≤ x) (h2 : x < 2147483648) : wr x = x := by
  unfold wr Int.bmod
  dsimp only
  split <;> omega
theorem ofI_wr (x : Int) : Int32.ofInt (wr x) = Int32.ofInt x := by
  apply Int32.toInt_inj.mp
  rw [toI_of (rg_wr x), Int32.toInt_ofInt]
  rfl
theorem ofI_toI (i : Int32) : Int32.ofInt i.toInt = i := Int32.ofInt_toInt i
theorem ofI_inj {x y : Int} (hx : rg x) (hy : rg y) : Int32.ofInt x = Int32.ofInt y ↔ x = y :=
  ⟨fun h => by rw [← toI_of hx, ← toI_of hy, h], fun h => by rw [h]⟩
theorem ofI_lt {x y : Int} (hx : rg x) (hy : rg y) : Int32.ofInt x < Int32.ofInt y ↔ x < y := by
  rw [Int32.lt_iff_toInt_lt, toI_of hx, toI_of hy]
theorem ofI_le {x y : Int} (hx : rg x) (hy : rg y) : Int32.ofInt x ≤ Int32.ofInt y ↔ x ≤ y := by
  rw [Int32.le_iff_toInt_le, toI_of hx, toI_of hy]
theorem ofI_nat {x : Int} (hx : rg x) : (Int32.ofInt x).toNatClampNeg = x.toNat := by
  show (Int32.ofInt x).toInt.toNat = x.toNat
  rw [toI_of hx]
theorem ofI_add (x y : Int) : Int32.ofInt x + Int32.ofInt y = Int32.ofInt (wr (x + y)) := by rw [ofI_wr, Int32.ofInt_add]
theorem ofI_sub (x y : Int) : Int32.ofInt x - Int32.ofInt y = Int32.ofInt (wr (x - y)) := by rw [ofI_wr, Int32.ofInt_sub]
theorem ofI_mul (x y : Int) : Int32.ofInt x * Int32.ofInt y = Int32.ofInt (wr (x * y)) := by rw [ofI_wr, Int32.ofInt_mul]
theorem ofI_neg (x : Int) : -Int32.ofInt x = Int32.ofInt (wr (-x)) := by rw [ofI_wr, Int32.ofInt_neg]
theorem ofI_div {x y : Int} (hx : rg x) (hy : rg y) : Int32.ofInt x / Int32.ofInt y = Int32.ofInt (wr (x.tdiv y)) := by
  apply Int32.toInt_inj.mp
  rw [Int32.toInt_div, toI_of hx, toI_of hy, toI_of (rg_wr _)]
  rfl
theorem ofI_rem {x y : Int} (hx : rg x) (hy : rg y) : Int32.ofInt x - Int32.ofInt x / Int32.ofInt y * Int32.ofInt y = Int32.ofInt (x.tmod y) := by
  rw [ofI_div hx hy, ofI_wr, ← Int32.ofInt_mul, ← Int32.ofInt_sub, Int.tmod_def, Int.mul_comm]
theorem rg_tmod {x y : Int} (hx : rg x) : rg (x.tmod y) := by
  have h := Int.natAbs_tmod x y
  have h2 : x.natAbs % y.natAbs ≤ x.natAbs := Nat.mod_le _ _
  have h3 : 0 ≤ x → 0 ≤ x.tmod y := fun h => Int.tmod_nonneg _ h
  have h4 : x ≤ 0 → x.tmod y ≤ 0 := fun h => by
    have := Int.tmod_nonneg (a := -x) y (by omega)
    rw [Int.neg_tmod] at this
    omega
  unfold rg at *
  omega
theorem rg_i2c (x : Int) : rg (x % 65536) := by
  unfold rg
  omega
theorem ofI_bv (x : Int) : (Int32.ofInt x).toBitVec = BitVec.ofInt 32 x := rfl
theorem ofI_ofNat (n : Nat) : Int32.ofNat n = Int32.ofInt (n : Int) := by
  rw [Int32.ofInt_eq_ofNat]
theorem ofI_i2c (x : Int) : ((Int32.ofInt x).toUInt32 % 65536).toInt32 = Int32.ofInt (x % 65536) := by
  rw [pk_char, ofI_bv, BitVec.toNat_ofInt]
  show Int32.ofNat _ = _
  rw [ofI_ofNat]
  congr 1
  show (((x % (2 ^ 32 : Nat)).toNat % 65536 : Nat) : Int) = _
  omega
theorem nar_char (x : Int) : narrow .char (.int (Int32.ofInt x)) = .int (Int32.ofInt (x % 65536)) := by
  rw [← ofI_i2c]
  rfl
theorem rg_b32 (f : Int32 → Int32 → Int32) (x y : Int) : rg (b32 f x y) := rg_toInt _
theorem ofI_b32 (f : Int32 → Int32 → Int32) (x y : Int) : Int32.ofInt (b32 f x y) = f (Int32.ofInt x) (Int32.ofInt y) := ofI_toI _
theorem rg_nat {n : Nat} (h : n < 2147483648) : rg (n : Int) := by
  unfold rg
  omega
theorem ofI_zero : Int32.ofInt 0 = 0 := rfl
theorem vp_of {i : Int} {n : Nat} (hi : rg i) (h0 : 0 ≤ i) (h1 : i < n) : ¬ (Int32.ofInt i < 0 ∨ n ≤ (Int32.ofInt i).toNatClampNeg) := by
  rw [ofI_nat hi]
  rintro (h | h)
  · rw [← ofI_zero, ofI_lt hi ⟨by decide, by decide⟩] at h
    omega
  · omega
