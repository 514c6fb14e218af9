/-! ===== how many bits a long has ===== -/
theorem land256 (a b c e : Nat) (hb : b < 256) (he : e < 256) : (256 * a + b) &&& (256 * c + e) = 256 * (a &&& c) + (b &&& e) := by
  have h1 := @Nat.and_div_two_pow (256 * a + b) (256 * c + e) 8
  have h2 := @Nat.and_mod_two_pow (256 * a + b) (256 * c + e) 8
  rw [show (2 : Nat) ^ 8 = 256 from rfl] at h1 h2
  rw [show (256 * a + b) / 256 = a by omega, show (256 * c + e) / 256 = c by omega] at h1
  rw [show (256 * a + b) % 256 = b by omega, show (256 * c + e) % 256 = e by omega] at h2
  have h3 := Nat.div_add_mod ((256 * a + b) &&& (256 * c + e)) 256
  omega
def mk8 (c : Nat) : Nat → Nat
  | 0 => 0
  | k + 1 => 256 * mk8 c k + c
def sW1 (k n : Nat) : Nat := n - ((n / 2) &&& mk8 85 k)
def sW2 (k s : Nat) : Nat := (s &&& mk8 51 k) + ((s / 4) &&& mk8 51 k)
def sW3 (k s : Nat) : Nat := (s + s / 16) &&& mk8 15 k
def pcb (l : Nat) : Nat := l % 2 + l / 2 % 2 + l / 4 % 2 + l / 8 % 2 + l / 16 % 2 + l / 32 % 2 + l / 64 % 2 + l / 128 % 2
def s1b (l : Nat) : Nat := l - ((l / 2) &&& 85)
def s2b (b : Nat) : Nat := (b &&& 51) + ((b / 4) &&& 51)
theorem byte_c : (allB 256 fun l => Nat.ble (Nat.land (l / 2) 85) l && Nat.beq (Nat.land (l / 2 + 128) 85) (Nat.land (l / 2) 85) && Nat.ble (s1b l) 255 && (allB 4 fun e => Nat.beq (Nat.land (s1b l / 4 + 64 * e) 51) (Nat.land (s1b l / 4) 51)) && Nat.ble (s2b (s1b l)) 68 && Nat.ble (s2b (s1b l) % 16) 4 && (allB 5 fun e => Nat.beq (Nat.land (s2b (s1b l) + s2b (s1b l) / 16 + 16 * e) 15) (pcb l))) = true := by decide +kernel
theorem byte_s {l : Nat} (hl : l < 256) : (l / 2) &&& 85 ≤ l ∧ (l / 2 + 128) &&& 85 = (l / 2) &&& 85 ∧ s1b l ≤ 255 ∧ (∀ e, e < 4 → (s1b l / 4 + 64 * e) &&& 51 = (s1b l / 4) &&& 51) ∧ s2b (s1b l) ≤ 68 ∧ s2b (s1b l) % 16 ≤ 4 ∧ (∀ e, e < 5 → (s2b (s1b l) + s2b (s1b l) / 16 + 16 * e) &&& 15 = pcb l) := by
  have h := allB_spec byte_c l hl
  simp -implicitDefEqProofs only [Bool.and_eq_true] at h
  obtain ⟨⟨⟨⟨⟨⟨h1, h2⟩, h3⟩, h4⟩, h5⟩, h6⟩, h7⟩ := h
  exact ⟨Nat.le_of_ble_eq_true h1, Nat.eq_of_beq_eq_true h2, Nat.le_of_ble_eq_true h3, fun e he => Nat.eq_of_beq_eq_true (allB_spec h4 e he), Nat.le_of_ble_eq_true h5, Nat.le_of_ble_eq_true h6, fun e he => Nat.eq_of_beq_eq_true (allB_spec h7 e he)⟩
/-- what the three steps make of k bytes -/
theorem sW_step : ∀ (k n : Nat), n < 256 ^ k → (n / 2) &&& mk8 85 k ≤ n ∧ sW1 k n < 256 ^ k ∧ 2 * sW2 k (sW1 k n) < 256 ^ k ∧ sW2 k (sW1 k n) % 16 ≤ 4
  | 0, n, hn => by
    have : n = 0 := by simpa using hn
    subst this
    refine ⟨by decide, by decide, by decide, by decide⟩
  | k + 1, n, hn => by
    rw [Nat.pow_succ] at hn
    obtain ⟨i1, i2, i3, i4⟩ := sW_step k (n / 256) (by omega)
    obtain ⟨b1, b2, b3, b4, b5, b6, b7⟩ := byte_s (show n % 256 < 256 by omega)
    have e1 : (n / 2) &&& mk8 85 (k + 1) = 256 * ((n / 256 / 2) &&& mk8 85 k) + ((n % 256 / 2) &&& 85) := by
      rw [mk8]
      by_cases c : n / 256 % 2 = 0
      · rw [show n / 2 = 256 * (n / 256 / 2) + n % 256 / 2 by omega, land256 _ _ _ _ (by omega) (by decide)]
      · rw [show n / 2 = 256 * (n / 256 / 2) + (n % 256 / 2 + 128) by omega, land256 _ _ _ _ (by omega) (by decide), b2]
    have e2 : sW1 (k + 1) n = 256 * sW1 k (n / 256) + s1b (n % 256) := by
      unfold sW1 s1b
      rw [e1]
      omega
    have e3 : sW2 (k + 1) (sW1 (k + 1) n) = 256 * sW2 k (sW1 k (n / 256)) + s2b (s1b (n % 256)) := by
      rw [e2]
      generalize sW1 k (n / 256) = a at *
      unfold sW2 s2b
      rw [mk8, land256 _ _ _ _ (by omega) (by decide)]
      rw [show (256 * a + s1b (n % 256)) / 4 = 256 * (a / 4) + (s1b (n % 256) / 4 + 64 * (a % 4)) by omega, land256 _ _ _ _ (by omega) (by decide), b4 (a % 4) (by omega)]
      omega
    rw [e1, e3, e2, Nat.pow_succ]
    refine ⟨by omega, by omega, by omega, by omega⟩
theorem sW_rec (k n : Nat) (hn : n < 256 ^ (k + 1)) : sW3 (k + 1) (sW2 (k + 1) (sW1 (k + 1) n)) = 256 * sW3 k (sW2 k (sW1 k (n / 256))) + pcb (n % 256) := by
  rw [Nat.pow_succ] at hn
  obtain ⟨i1, i2, i3, i4⟩ := sW_step k (n / 256) (by omega)
  obtain ⟨b1, b2, b3, b4, b5, b6, b7⟩ := byte_s (show n % 256 < 256 by omega)
  have e1 : (n / 2) &&& mk8 85 (k + 1) = 256 * ((n / 256 / 2) &&& mk8 85 k) + ((n % 256 / 2) &&& 85) := by
    rw [mk8]
    by_cases c : n / 256 % 2 = 0
    · rw [show n / 2 = 256 * (n / 256 / 2) + n % 256 / 2 by omega, land256 _ _ _ _ (by omega) (by decide)]
    · rw [show n / 2 = 256 * (n / 256 / 2) + (n % 256 / 2 + 128) by omega, land256 _ _ _ _ (by omega) (by decide), b2]
  have e2 : sW1 (k + 1) n = 256 * sW1 k (n / 256) + s1b (n % 256) := by
    unfold sW1 s1b
    rw [e1]
    omega
  have e3 : sW2 (k + 1) (sW1 (k + 1) n) = 256 * sW2 k (sW1 k (n / 256)) + s2b (s1b (n % 256)) := by
    rw [e2]
    generalize sW1 k (n / 256) = a at *
    unfold sW2 s2b
    rw [mk8, land256 _ _ _ _ (by omega) (by decide)]
    rw [show (256 * a + s1b (n % 256)) / 4 = 256 * (a / 4) + (s1b (n % 256) / 4 + 64 * (a % 4)) by omega, land256 _ _ _ _ (by omega) (by decide), b4 (a % 4) (by omega)]
    omega
  rw [e3]
  generalize sW2 k (sW1 k (n / 256)) = a at *
  unfold sW3
  rw [mk8]
  rw [show 256 * a + s2b (s1b (n % 256)) + (256 * a + s2b (s1b (n % 256))) / 16 = 256 * (a + a / 16) + (s2b (s1b (n % 256)) + s2b (s1b (n % 256)) / 16 + 16 * (a % 16)) by omega, land256 _ _ _ _ (by omega) (by decide), b7 (a % 16) (by omega)]
theorem pcb_le (l : Nat) : pcb l ≤ 8 := by unfold pcb; omega
/-- all of it, of eight bytes -/
theorem sW_all (n : Nat) (hn : n < 256 ^ 8) : sW3 8 (sW2 8 (sW1 8 n)) = pcb (n % 256) + 256 * pcb (n / 256 % 256) + 256 ^ 2 * pcb (n / 256 / 256 % 256) + 256 ^ 3 * pcb (n / 256 / 256 / 256 % 256) + 256 ^ 4 * pcb (n / 256 / 256 / 256 / 256 % 256) + 256 ^ 5 * pcb (n / 256 / 256 / 256 / 256 / 256 % 256) + 256 ^ 6 * pcb (n / 256 / 256 / 256 / 256 / 256 / 256 % 256) + 256 ^ 7 * pcb (n / 256 / 256 / 256 / 256 / 256 / 256 / 256 % 256) := by
  rw [sW_rec 7 n hn, sW_rec 6 _ (by omega), sW_rec 5 _ (by omega), sW_rec 4 _ (by omega), sW_rec 3 _ (by omega), sW_rec 2 _ (by omega), sW_rec 1 _ (by omega), sW_rec 0 _ (by omega)]
  have e : sW3 0 (sW2 0 (sW1 0 (n / 256 / 256 / 256 / 256 / 256 / 256 / 256 / 256))) = 0 := by
    rw [show n / 256 / 256 / 256 / 256 / 256 / 256 / 256 / 256 = 0 by omega]
    decide
  rw [e]
  omega
def add3 (s : Nat) : Nat := (s + s / 256) + (s + s / 256) / 65536 + ((s + s / 256) + (s + s / 256) / 65536) / 4294967296
theorem add_all {a b c d e f g h : Nat} (ha : a ≤ 8) (hb : b ≤ 8) (hc : c ≤ 8) (hd : d ≤ 8) (he : e ≤ 8) (hf : f ≤ 8) (hg : g ≤ 8) (hh : h ≤ 8) : add3 (a + 256 * b + 256 ^ 2 * c + 256 ^ 3 * d + 256 ^ 4 * e + 256 ^ 5 * f + 256 ^ 6 * g + 256 ^ 7 * h) % 128 = a + b + c + d + e + f + g + h := by
  unfold add3
  rw [show (256 : Nat) ^ 2 = 65536 from rfl, show (256 : Nat) ^ 3 = 16777216 from rfl, show (256 : Nat) ^ 4 = 4294967296 from rfl, show (256 : Nat) ^ 5 = 1099511627776 from rfl, show (256 : Nat) ^ 6 = 281474976710656 from rfl, show (256 : Nat) ^ 7 = 72057594037927936 from rfl]
  obtain ⟨s, hs⟩ : ∃ s, s = a + 256 * b + 65536 * c + 16777216 * d + 4294967296 * e + 1099511627776 * f + 281474976710656 * g + 72057594037927936 * h := ⟨_, rfl⟩
  rw [← hs]
  have h1 : s / 256 = b + 256 * c + 65536 * d + 16777216 * e + 4294967296 * f + 1099511627776 * g + 281474976710656 * h := by omega
  obtain ⟨t, ht⟩ : ∃ t, t = s + s / 256 := ⟨_, rfl⟩
  rw [← ht]
  have h2 : t = (a + b) + 256 * (b + c) + 65536 * (c + d) + 16777216 * (d + e) + 4294967296 * (e + f) + 1099511627776 * (f + g) + 281474976710656 * (g + h) + 72057594037927936 * h := by omega
  have h3 : t / 65536 = (c + d) + 256 * (d + e) + 65536 * (e + f) + 16777216 * (f + g) + 4294967296 * (g + h) + 1099511627776 * h := by
    clear hs h1 ht
    omega
  obtain ⟨u, hu⟩ : ∃ u, u = t + t / 65536 := ⟨_, rfl⟩
  rw [← hu]
  have h4 : u = (a + b + c + d) + 256 * (b + c + d + e) + 65536 * (c + d + e + f) + 16777216 * (d + e + f + g) + 4294967296 * (e + f + g + h) + 1099511627776 * (f + g + h) + 281474976710656 * (g + h) + 72057594037927936 * h := by omega
  have h5 : u / 4294967296 = (e + f + g + h) + 256 * (f + g + h) + 65536 * (g + h) + 16777216 * h := by
    clear hs h1 ht h2 h3 hu
    omega
  clear hs h1 ht h2 h3 hu
  omega
def nv (x : Int64) : Nat := x.toBitVec.toNat
theorem nv_lt (x : Int64) : nv x < 18446744073709551616 := x.toBitVec.isLt
theorem nv_and (x y : Int64) : nv (x &&& y) = nv x &&& nv y := by
  show (x.toBitVec &&& y.toBitVec).toNat = _
  rw [BitVec.toNat_and]
  rfl
theorem nv_add {x y : Int64} (h : nv x + nv y < 18446744073709551616) : nv (x + y) = nv x + nv y := by
  show (x.toBitVec + y.toBitVec).toNat = _
  rw [BitVec.toNat_add]
  exact Nat.mod_eq_of_lt h
theorem nv_sub {x y : Int64} (h : nv y ≤ nv x) : nv (x - y) = nv x - nv y := by
  show (x.toBitVec - y.toBitVec).toNat = _
  rw [BitVec.toNat_sub_of_le (BitVec.le_def.mpr h)]
  rfl
def shR (x : Int64) (j : Int) : Int64 := (x.toUInt64 >>> ((Int32.ofInt j).toInt64.toUInt64 &&& Int64.toUInt64 63)).toInt64
theorem shR_bv {x : Int64} {j : Nat} (hj : j < 64) : (shR x (j : Int)).toBitVec = x.toBitVec >>> j := by
  have h := allB_spec sh63 j hj
  simp -implicitDefEqProofs only [Bool.and_eq_true] at h
  have h1 := of_decide_eq_true h.1.1
  have h3 := of_decide_eq_true h.1.2
  unfold shR
  rw [h1]
  show (x.toBitVec >>> (UInt64.mod (UInt64.ofNat j) 64).toBitVec) = _
  rw [BitVec.ushiftRight_eq', h3]
theorem nv_shR {x : Int64} {j : Nat} (hj : j < 64) : nv (shR x (j : Int)) = nv x / 2 ^ j := by
  unfold nv
  rw [shR_bv hj, BitVec.toNat_ushiftRight, Nat.shiftRight_eq_div_pow]
theorem and127 (x : Int64) : b32 (· &&& ·) x.toInt32.toInt 127 = ((nv x % 128 : Nat) : Int) := by
  unfold b32
  rw [Int32.ofInt_toInt]
  have e1 : (x.toInt32 &&& Int32.ofInt 127).toBitVec.toNat = nv x % 128 := by
    show (x.toBitVec.signExtend 32 &&& 127#32).toNat = _
    rw [BitVec.toNat_and, BitVec.signExtend_eq_setWidth_of_le _ (by decide), BitVec.toNat_setWidth]
    show (nv x % 2 ^ 32) &&& 127 = _
    rw [show (127 : Nat) = 2 ^ 7 - 1 from rfl, Nat.and_two_pow_sub_one_eq_mod]
    omega
  show (x.toInt32 &&& Int32.ofInt 127).toBitVec.toInt = _
  rw [BitVec.toInt_eq_toNat_of_lt (by rw [e1]; omega), e1]
