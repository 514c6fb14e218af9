/-! ===== in round: the k-th, and which one ===== -/
def allB : Nat → (Nat → Bool) → Bool
  | 0, _ => true
  | n + 1, f => bif f n then allB n f else false
theorem allB_spec {n : Nat} {f : Nat → Bool} (h : allB n f = true) : ∀ i, i < n → f i = true := by
  induction n with
  | zero => intro i hi; omega
  | succ n ih =>
    unfold allB at h
    cases e : f n with
    | false => rw [e] at h; exact absurd h (by simp)
    | true =>
      rw [e] at h
      intro i hi
      by_cases c : i = n
      · subst c; exact e
      · exact ih h i (by omega)
def rnR (w h x y : Nat) : Nat := Nat.min (Nat.min x y) (Nat.min (w - 1 - x) (h - 1 - y))
def rnB (w h r : Nat) : Nat := w * h - (w - 2 * r) * (h - 2 * r)
def rnQ (r a b ahead x y : Nat) : Nat := bif Nat.beq y r then ahead + (x - r) else bif Nat.beq (x - r) a then ahead + a + (y - r) else bif Nat.beq (y - r) b then ahead + a + b + a - (x - r) else ahead + 2 * a + b + b - (y - r)
def rnP' (w h x y r : Nat) : Nat := rnQ r (w - 2 * r - 1) (h - 2 * r - 1) (rnB w h r) x y
def rnP (w h x y : Nat) : Nat := rnP' w h x y (rnR w h x y)
def rnS (w h k : Nat) : Nat → Nat → Nat
  | 0, r => r
  | f + 1, r => bif Nat.ble (rnB w h (r + 1)) k then rnS w h k f (r + 1) else r
def rnD (r a b rest : Nat) : Nat := bif Nat.ble rest a then 100 * r + (r + rest) else bif Nat.ble rest (a + b) then 100 * (r + (rest - a)) + (r + a) else bif Nat.ble rest (2 * a + b) then 100 * (r + b) + (r + (2 * a + b - rest)) else 100 * (r + (2 * a + 2 * b - rest)) + r
def rnC' (w h k r : Nat) : Nat := rnD r (w - 2 * r - 1) (h - 2 * r - 1) (k - rnB w h r)
def rnC (w h k : Nat) : Nat := rnC' w h k (rnS w h k 10 0)
def rnT1 (w h : Nat) : Bool := allB h fun y => allB w fun x => Nat.beq (rnC w h (rnP w h x y)) (100 * y + x)
def rnT2' (w h c k : Nat) : Bool := bif Nat.ble w (c % 100) then false else bif Nat.ble h (c / 100) then false else Nat.beq (rnP w h (c % 100) (c / 100)) k
def rnT2 (w h : Nat) : Bool := allB (w * h) fun k => rnT2' w h (rnC w h k) k
theorem rn_t1 : (allB 20 fun w => allB 20 fun h => rnT1 (w + 1) (h + 1)) = true := by decide +kernel
theorem rn_t2 : (allB 20 fun w => allB 20 fun h => rnT2 (w + 1) (h + 1)) = true := by decide +kernel
theorem rn_1 {w h x y : Nat} (hw : 1 ≤ w ∧ w ≤ 20) (hh : 1 ≤ h ∧ h ≤ 20) (hx : x < w) (hy : y < h) : rnC w h (rnP w h x y) = 100 * y + x := by
  have := allB_spec (allB_spec (allB_spec (allB_spec rn_t1 (w - 1) (by omega)) (h - 1) (by omega)) y (by omega)) x (by omega)
  rw [show w - 1 + 1 = w by omega, show h - 1 + 1 = h by omega] at this
  exact Nat.eq_of_beq_eq_true this
theorem rn_2 {w h k : Nat} (hw : 1 ≤ w ∧ w ≤ 20) (hh : 1 ≤ h ∧ h ≤ 20) (hk : k < w * h) : rnC w h k % 100 < w ∧ rnC w h k / 100 < h ∧ rnP w h (rnC w h k % 100) (rnC w h k / 100) = k := by
  have := allB_spec (allB_spec (allB_spec rn_t2 (w - 1) (by omega)) (h - 1) (by omega)) k (by
    rw [show w - 1 + 1 = w by omega, show h - 1 + 1 = h by omega]; exact hk)
  rw [show w - 1 + 1 = w by omega, show h - 1 + 1 = h by omega] at this
  unfold rnT2' at this
  cases e1 : Nat.ble w (rnC w h k % 100) with
  | true => rw [e1] at this; exact absurd this (by simp)
  | false =>
    rw [e1] at this
    cases e2 : Nat.ble h (rnC w h k / 100) with
    | true => rw [e2] at this; exact absurd this (by simp)
    | false =>
      rw [e2] at this
      refine ⟨?_, ?_, Nat.eq_of_beq_eq_true this⟩
      · have : ¬ w ≤ rnC w h k % 100 := fun q => by rw [Nat.ble_eq_true_of_le q] at e1; cases e1
        omega
      · have : ¬ h ≤ rnC w h k / 100 := fun q => by rw [Nat.ble_eq_true_of_le q] at e2; cases e2
        omega
