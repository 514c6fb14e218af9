/-! ===== cut: the mathematics ===== -/
def sg (w : Nat → Nat) : Nat → Nat
  | 0 => 0
  | k + 1 => sg w k + w k
theorem sg_mono (w : Nat → Nat) (a : Nat) : ∀ k, sg w a ≤ sg w (a + k)
  | 0 => Nat.le_refl _
  | k + 1 => by
    have := sg_mono w a k
    show sg w a ≤ sg w (a + k) + w (a + k)
    omega
theorem sg_le (w : Nat → Nat) {a b : Nat} (h : a ≤ b) : sg w a ≤ sg w b := by
  have := sg_mono w a (b - a)
  rwa [show a + (b - a) = b by omega] at this
theorem sg_one (w : Nat → Nat) {a i b : Nat} (h : a ≤ i) (h2 : i < b) : sg w a + w i ≤ sg w b := by
  have h3 := sg_le w h
  have h4 : sg w (i + 1) ≤ sg w b := sg_le w h2
  have h5 : sg w (i + 1) = sg w i + w i := rfl
  omega
/-- sum of g i, i < j, where the part from i on is no heavier than h (tot: what the part ends at) -/
def cwP (w g : Nat → Nat) (h tot : Nat) : Nat → Nat
  | 0 => 0
  | j + 1 => cwP w g h tot j + (if tot - sg w j ≤ h then g j else 0)
def cwW (w : Nat → Nat) (h : Nat) : Nat → Nat → Nat
  | 0, n => if n = 0 then 1 else 0
  | p + 1, n => cwP w (cwW w h p) h (sg w n) n
def cwA (w : Nat → Nat) (h n : Nat) : Nat → Nat
  | 0 => cwW w h 0 n
  | k + 1 => cwA w h n k + cwW w h (k + 1) n
theorem cwP_bd (w g : Nat → Nat) (h tot : Nat) (hg : ∀ i, g i ≤ 2 ^ i) : ∀ j, cwP w g h tot j < 2 ^ j
  | 0 => by unfold cwP; omega
  | j + 1 => by
    have h1 := cwP_bd w g h tot hg j
    have h2 := hg j
    unfold cwP
    rw [Nat.pow_succ]
    split <;> omega
theorem cwW_bd (w : Nat → Nat) (h : Nat) : ∀ p n, cwW w h p n ≤ 2 ^ n
  | 0, n => by
    unfold cwW
    have : 0 < 2 ^ n := Nat.pow_pos (by omega)
    split <;> omega
  | p + 1, n => Nat.le_of_lt (cwP_bd w _ h _ (fun i => cwW_bd w h p i) n)
theorem cwP_pos (w g : Nat → Nat) (h tot : Nat) : ∀ j, 0 < cwP w g h tot j ↔ ∃ i, i < j ∧ tot - sg w i ≤ h ∧ 0 < g i
  | 0 => ⟨fun h => by unfold cwP at h; omega, fun ⟨i, h1, _⟩ => by omega⟩
  | j + 1 => by
    have ih := cwP_pos w g h tot j
    unfold cwP
    constructor
    · intro hp
      by_cases c : 0 < cwP w g h tot j
      · obtain ⟨i, h1, h2⟩ := ih.mp c
        exact ⟨i, by omega, h2⟩
      · split at hp
        · exact ⟨j, by omega, by assumption, by omega⟩
        · omega
    · rintro ⟨i, h1, h2, h3⟩
      by_cases c : i = j
      · subst c
        rw [if_pos h2]
        omega
      · have := ih.mpr ⟨i, by omega, h2, h3⟩
        omega
theorem cwW_pos (w : Nat → Nat) (h p n : Nat) : 0 < cwW w h (p + 1) n ↔ ∃ i, i < n ∧ sg w n - sg w i ≤ h ∧ 0 < cwW w h p i := cwP_pos w _ h _ n
theorem cwA_pos (w : Nat → Nat) (h n : Nat) : ∀ k, 0 < cwA w h n k ↔ ∃ p, p ≤ k ∧ 0 < cwW w h p n
  | 0 => ⟨fun h => ⟨0, Nat.le_refl _, h⟩, fun ⟨p, h1, h2⟩ => by
    obtain rfl : p = 0 := by omega
    exact h2⟩
  | k + 1 => by
    have ih := cwA_pos w h n k
    unfold cwA
    constructor
    · intro hp
      by_cases c : 0 < cwA w h n k
      · obtain ⟨i, h1, h2⟩ := ih.mp c
        exact ⟨i, by omega, h2⟩
      · exact ⟨k + 1, by omega, by omega⟩
    · rintro ⟨p, h1, h2⟩
      by_cases c : p = k + 1
      · subst c; omega
      · have := ih.mpr ⟨p, by omega, h2⟩
        omega
theorem cwA_bd (w : Nat → Nat) (h n : Nat) : ∀ k, cwA w h n k ≤ (k + 1) * 2 ^ n
  | 0 => by have := cwW_bd w h 0 n; unfold cwA; omega
  | k + 1 => by
    have h1 := cwA_bd w h n k
    have h2 := cwW_bd w h (k + 1) n
    unfold cwA
    rw [show (k + 1 + 1) * 2 ^ n = (k + 1) * 2 ^ n + 2 ^ n by rw [Nat.add_mul, Nat.one_mul]]
    omega
theorem cwW_mono (w : Nat → Nat) {h h' : Nat} (hh : h ≤ h') : ∀ p n, 0 < cwW w h p n → 0 < cwW w h' p n
  | 0, _, k => k
  | p + 1, n, k => by
    obtain ⟨i, h1, h2, h3⟩ := (cwW_pos w h p n).mp k
    exact (cwW_pos w h' p n).mpr ⟨i, h1, by omega, cwW_mono w hh p i h3⟩
theorem cwW_all (w : Nat → Nat) (h : Nat) : ∀ p n, 0 < cwW w h p n → ∀ i, i < n → w i ≤ h
  | 0, n, k, i, hi => by
    unfold cwW at k
    split at k <;> omega
  | p + 1, n, k, i, hi => by
    obtain ⟨j, h1, h2, h3⟩ := (cwW_pos w h p n).mp k
    by_cases c : i < j
    · exact cwW_all w h p j h3 i c
    · have := sg_one w (show j ≤ i by omega) hi
      omega
/-- greedy: parts, the last part -/
def cwG (w : Nat → Nat) (h : Nat) : Nat → Nat × Nat
  | 0 => (1, 0)
  | i + 1 => if h < (cwG w h i).2 + w i then ((cwG w h i).1 + 1, w i) else ((cwG w h i).1, (cwG w h i).2 + w i)
theorem cwG_ok (w : Nat → Nat) (h : Nat) : ∀ n, (∀ i, i < n + 1 → w i ≤ h) → ∃ p i, (cwG w h (n + 1)).1 = p + 1 ∧ i < n + 1 ∧ sg w (n + 1) - sg w i = (cwG w h (n + 1)).2 ∧ (cwG w h (n + 1)).2 ≤ h ∧ 0 < cwW w h p i
  | 0, hw => by
    have := hw 0 (by omega)
    refine ⟨0, 0, ?_⟩
    simp only [cwG, sg, cwW, Nat.zero_add]
    rw [if_neg (by omega)]
    refine ⟨rfl, by omega, by omega, this, by decide⟩
  | n + 1, hw => by
    obtain ⟨p, i, h1, h2, h3, h4, h5⟩ := cwG_ok w h n (fun i hi => hw i (by omega))
    have hm := sg_le w (show i ≤ n + 1 by omega)
    by_cases c : h < (cwG w h (n + 1)).2 + w (n + 1)
    · refine ⟨p + 1, n + 1, ?_⟩
      rw [cwG, if_pos c]
      refine ⟨by rw [h1], by omega, ?_, hw _ (by omega), (cwW_pos w h p (n + 1)).mpr ⟨i, h2, by omega, h5⟩⟩
      show sg w (n + 1) + w (n + 1) - sg w (n + 1) = w (n + 1)
      omega
    · refine ⟨p, i, ?_⟩
      rw [cwG, if_neg c]
      refine ⟨h1, by omega, ?_, by omega, h5⟩
      show sg w (n + 1) + w (n + 1) - sg w i = (cwG w h (n + 1)).2 + w (n + 1)
      omega
theorem cwG_best (w : Nat → Nat) (h : Nat) : ∀ n p i, i < n + 1 → sg w (n + 1) - sg w i ≤ h → 0 < cwW w h p i → (cwG w h (n + 1)).1 ≤ p + 1 ∧ ((cwG w h (n + 1)).1 = p + 1 → (cwG w h (n + 1)).2 ≤ sg w (n + 1) - sg w i)
  | 0, p, i, h1, h2, h3 => by
    obtain rfl : i = 0 := by omega
    have e : sg w (0 + 1) - sg w 0 = w 0 := by show 0 + w 0 - 0 = w 0; omega
    rw [e] at h2 ⊢
    have e2 : cwG w h (0 + 1) = (1, 0 + w 0) := by
      show (if h < 0 + w 0 then (1 + 1, w 0) else (1, 0 + w 0)) = _
      rw [if_neg (by omega)]
    rw [e2]
    exact ⟨by omega, fun _ => by show 0 + w 0 ≤ w 0; omega⟩
  | n + 1, p, i, h1, h2, h3 => by
    have e : sg w (n + 1 + 1) = sg w (n + 1) + w (n + 1) := rfl
    have hm := sg_le w (show i ≤ n + 1 by omega)
    by_cases c : i = n + 1
    · subst c
      have hp : (cwG w h (n + 1)).1 ≤ p := by
        cases p with
        | zero =>
          unfold cwW at h3
          rw [if_neg (by omega)] at h3
          omega
        | succ p =>
          obtain ⟨j, j1, j2, j3⟩ := (cwW_pos w h p (n + 1)).mp h3
          exact (cwG_best w h n p j j1 j2 j3).1
      rw [cwG]
      split
      · exact ⟨by show (cwG w h (n + 1)).1 + 1 ≤ _; omega, fun _ => by show w (n + 1) ≤ _; omega⟩
      · exact ⟨by show (cwG w h (n + 1)).1 ≤ _; omega, fun q => by have : (cwG w h (n + 1)).1 = p + 1 := q; omega⟩
    · obtain ⟨q1, q2⟩ := cwG_best w h n p i (by omega) (by omega) h3
      rw [cwG]
      split
      · rename_i hb
        refine ⟨?_, fun _ => by show w (n + 1) ≤ _; omega⟩
        show (cwG w h (n + 1)).1 + 1 ≤ p + 1
        by_cases c2 : (cwG w h (n + 1)).1 = p + 1
        · have := q2 c2; omega
        · omega
      · refine ⟨q1, fun q => ?_⟩
        have := q2 q
        show (cwG w h (n + 1)).2 + w (n + 1) ≤ _
        omega
theorem cwG_iff (w : Nat → Nat) (h n k : Nat) (hk : 1 ≤ k) (hw : ∀ i, i < n → w i ≤ h) : (cwG w h n).1 ≤ k ↔ 0 < cwA w h n k := by
  rw [cwA_pos]
  cases n with
  | zero => exact ⟨fun _ => ⟨0, by omega, Nat.one_pos⟩, fun _ => hk⟩
  | succ n =>
    constructor
    · intro hh
      obtain ⟨p, i, h1, h2, h3, h4, h5⟩ := cwG_ok w h n hw
      exact ⟨p + 1, by omega, (cwW_pos w h p (n + 1)).mpr ⟨i, h2, by omega, h5⟩⟩
    · rintro ⟨p, h1, h2⟩
      cases p with
      | zero =>
        unfold cwW at h2
        rw [if_neg (by omega)] at h2
        omega
      | succ p =>
        obtain ⟨j, j1, j2, j3⟩ := (cwW_pos w h p (n + 1)).mp h2
        have := (cwG_best w h n p j j1 j2 j3).1
        omega
theorem cwA_mono (w : Nat → Nat) {h h' : Nat} (hh : h ≤ h') (n k : Nat) (q : 0 < cwA w h n k) : 0 < cwA w h' n k := by
  obtain ⟨p, h1, h2⟩ := (cwA_pos w h n k).mp q
  exact (cwA_pos w h' n k).mpr ⟨p, h1, cwW_mono w hh p n h2⟩
theorem cwA_tot (w : Nat → Nat) (n k : Nat) (hk : 1 ≤ k) : 0 < cwA w (sg w n) n k := by
  rw [cwA_pos]
  cases n with
  | zero => exact ⟨0, by omega, Nat.one_pos⟩
  | succ n => exact ⟨1, hk, (cwW_pos w _ 0 (n + 1)).mpr ⟨0, by omega, by omega, Nat.one_pos⟩⟩
theorem cwA_all (w : Nat → Nat) (h n k : Nat) (q : 0 < cwA w h n k) : ∀ i, i < n → w i ≤ h := by
  obtain ⟨p, h1, h2⟩ := (cwA_pos w h n k).mp q
  exact cwW_all w h p n h2
/-- the least weight that the heaviest part can have -/
def cwZ (w : Nat → Nat) (n k : Nat) : Nat → Nat → Nat
  | 0, h => h
  | f + 1, h => if 0 < cwA w h n k then h else cwZ w n k f (h + 1)
def cwH (w : Nat → Nat) (n k : Nat) : Nat := cwZ w n k (sg w n) 0
theorem cwZ_eq (w : Nat → Nat) (n k : Nat) {x : Nat} (h1 : 0 < cwA w x n k) (h2 : ∀ y, y < x → ¬ 0 < cwA w y n k) : ∀ f h, h ≤ x → x ≤ h + f → cwZ w n k f h = x
  | 0, h, a, b => by show h = x; omega
  | f + 1, h, a, b => by
    unfold cwZ
    by_cases c : 0 < cwA w h n k
    · rw [if_pos c]
      by_cases e : h = x
      · exact e
      · exact absurd c (h2 h (by omega))
    · rw [if_neg c]
      refine cwZ_eq w n k h1 h2 f (h + 1) ?_ (by omega)
      by_cases e : h = x
      · subst e; exact absurd h1 c
      · omega
theorem cwH_eq (w : Nat → Nat) (n k : Nat) {x : Nat} (hx : x ≤ sg w n) (h1 : 0 < cwA w x n k) (h2 : ∀ y, y < x → ¬ 0 < cwA w y n k) : cwH w n k = x := cwZ_eq w n k h1 h2 _ _ (Nat.zero_le _) (by omega)
