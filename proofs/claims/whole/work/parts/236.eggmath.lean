/-! ===== eggs: how many steps t throws and e eggs tell apart ===== -/
def egF : Nat → Nat → Nat
  | 0, _ => 0
  | _ + 1, 0 => 0
  | t + 1, e + 1 => egF t e + egF t (e + 1) + 1
theorem egF_z (t : Nat) : egF t 0 = 0 := by cases t <;> rfl
theorem egF_ge : ∀ (t e : Nat), t ≤ egF t (e + 1)
  | 0, _ => Nat.zero_le _
  | t + 1, e => by
    have := egF_ge t e
    rw [egF]
    omega
theorem egF_mono : ∀ (t e : Nat), egF t e ≤ egF (t + 1) e
  | 0, _ => Nat.zero_le _
  | t + 1, 0 => by rw [egF_z]; exact Nat.zero_le _
  | t + 1, e + 1 => by
    have h1 := egF_mono t e
    have h2 := egF_mono t (e + 1)
    rw [egF, egF]
    omega
theorem egF_mono' (e : Nat) : ∀ (k t : Nat), egF t e ≤ egF (t + k) e
  | 0, _ => Nat.le_refl _
  | k + 1, t => Nat.le_trans (egF_mono' e k t) (egF_mono (t + k) e)
/-- the least t with m ≤ F t e, from t0 on -/
def egS (m e : Nat) : Nat → Nat → Nat
  | 0, t => t
  | f + 1, t => if m ≤ egF t e then t else egS m e f (t + 1)
def egG (m e : Nat) : Nat := if e = 0 then (if m = 0 then 0 else 100000000) else egS m e m 0
theorem egS_spec (m e : Nat) : ∀ (f t : Nat), m ≤ egF (t + f) e → (∀ t', t' < t → egF t' e < m) → m ≤ egF (egS m e f t) e ∧ (∀ t', t' < egS m e f t → egF t' e < m) ∧ egS m e f t ≤ t + f
  | 0, t, h, k => ⟨h, k, Nat.le_refl _⟩
  | f + 1, t, h, k => by
    unfold egS
    by_cases c : m ≤ egF t e
    · rw [if_pos c]
      exact ⟨c, k, by omega⟩
    · rw [if_neg c]
      have := egS_spec m e f (t + 1) (by rw [show t + 1 + f = t + (f + 1) by omega]; exact h) (fun t' ht' => by
        by_cases e1 : t' = t
        · subst e1; omega
        · exact k t' (by omega))
      exact ⟨this.1, this.2.1, by omega⟩
theorem egG_spec (m e : Nat) : m ≤ egF (egG m (e + 1)) (e + 1) ∧ (∀ t', t' < egG m (e + 1) → egF t' (e + 1) < m) ∧ egG m (e + 1) ≤ m := by
  have := egS_spec m (e + 1) m 0 (by rw [Nat.zero_add]; exact egF_ge m e) (fun t' h => absurd h (by omega))
  unfold egG
  rw [if_neg (by omega)]
  exact ⟨this.1, this.2.1, by omega⟩
/-- what counts of the table -/
theorem egG_le (m e t : Nat) (ht : t < 100000000) : egG m e ≤ t ↔ m ≤ egF t e := by
  cases e with
  | zero =>
    rw [egF_z]
    unfold egG
    rw [if_pos rfl]
    by_cases h : m = 0
    · rw [if_pos h]; omega
    · rw [if_neg h]; omega
  | succ e =>
    obtain ⟨h1, h2, -⟩ := egG_spec m e
    constructor
    · intro h
      have := egF_mono' (e + 1) (t - egG m (e + 1)) (egG m (e + 1))
      rw [show egG m (e + 1) + (t - egG m (e + 1)) = t by omega] at this
      omega
    · intro h
      by_cases c : egG m (e + 1) ≤ t
      · exact c
      · have := h2 t (by omega)
        omega
theorem egG_bd (m e : Nat) (hm : m ≤ 500) : egG m e ≤ 100000000 := by
  cases e with
  | zero =>
    unfold egG
    rw [if_pos rfl]
    split <;> omega
  | succ e =>
    have := (egG_spec m e).2.2
    omega
/-- the least of f 1 .. f k and a hundred million -/
def mnK (f : Nat → Nat) : Nat → Nat
  | 0 => 100000000
  | k + 1 => min (mnK f k) (f (k + 1))
theorem mnK_le (f : Nat → Nat) (t : Nat) (ht : t < 100000000) : ∀ k, mnK f k ≤ t ↔ ∃ s, 1 ≤ s ∧ s ≤ k ∧ f s ≤ t
  | 0 => ⟨fun h => by unfold mnK at h; omega, fun ⟨s, h1, h2, _⟩ => by omega⟩
  | k + 1 => by
    have ih := mnK_le f t ht k
    unfold mnK
    constructor
    · intro h
      by_cases c : mnK f k ≤ t
      · obtain ⟨s, h1, h2, h3⟩ := ih.mp c
        exact ⟨s, h1, by omega, h3⟩
      · exact ⟨k + 1, by omega, by omega, by omega⟩
    · rintro ⟨s, h1, h2, h3⟩
      by_cases c : s = k + 1
      · subst c; omega
      · have := ih.mpr ⟨s, h1, by omega, h3⟩
        omega
def egA (m e s : Nat) : Nat := 1 + max (egG (s - 1) e) (egG (m - s) (e + 1))
theorem egA_le (m e s t : Nat) (ht : t + 1 < 100000000) : egA m e s ≤ t + 1 ↔ s - 1 ≤ egF t e ∧ m - s ≤ egF t (e + 1) := by
  unfold egA
  rw [← egG_le (s - 1) e t (by omega), ← egG_le (m - s) (e + 1) t (by omega)]
  omega
theorem mnK_eg (m e : Nat) (h0 : 0 < m) (hm : m ≤ 500) : mnK (egA m e) m = egG m (e + 1) := by
  have hb := (egG_spec m e).2.2
  have key : ∀ t, t < 1000 → (mnK (egA m e) m ≤ t ↔ egG m (e + 1) ≤ t) := by
    intro t ht
    rw [mnK_le _ _ (by omega), egG_le _ _ _ (by omega)]
    cases t with
    | zero =>
      constructor
      · rintro ⟨s, h1, h2, h3⟩
        unfold egA at h3
        omega
      · intro h
        unfold egF at h
        omega
    | succ t =>
      constructor
      · rintro ⟨s, h1, h2, h3⟩
        obtain ⟨h4, h5⟩ := (egA_le m e s t (by omega)).mp h3
        rw [egF]
        omega
      · intro h
        rw [egF] at h
        refine ⟨min m (egF t e + 1), by omega, by omega, (egA_le m e _ t (by omega)).mpr ⟨by omega, by omega⟩⟩
  have h1 := (key (egG m (e + 1)) (by omega)).mpr (Nat.le_refl _)
  have h2 := (key (mnK (egA m e) m) (by omega)).mp (Nat.le_refl _)
  omega
/-- the first step from which the first egg may be thrown -/
theorem eg_first (n e : Nat) (h0 : 0 < n) (hn : n ≤ 500) : egA n e (n - egF (egG n (e + 1) - 1) (e + 1)) = egG n (e + 1) ∧ 1 ≤ n - egF (egG n (e + 1) - 1) (e + 1) ∧ ∀ s, 1 ≤ s → s < n - egF (egG n (e + 1) - 1) (e + 1) → egA n e s ≠ egG n (e + 1) := by
  obtain ⟨h1, h2, h3⟩ := egG_spec n e
  have hp : 0 < egG n (e + 1) := by
    by_cases c : egG n (e + 1) = 0
    · rw [c] at h1
      unfold egF at h1
      omega
    · omega
  obtain ⟨t, ht⟩ : ∃ t, egG n (e + 1) = t + 1 := ⟨egG n (e + 1) - 1, by omega⟩
  have h4 := h2 t (by omega)
  rw [ht] at h1
  rw [egF] at h1
  have ge : ∀ s, 1 ≤ s → s ≤ n → egG n (e + 1) ≤ egA n e s := by
    intro s hs1 hs2
    rw [← mnK_eg n e h0 hn]
    by_cases c : egA n e s < 100000000
    · exact (mnK_le _ _ c n).mpr ⟨s, hs1, hs2, Nat.le_refl _⟩
    · have : mnK (egA n e) n = egG n (e + 1) := mnK_eg n e h0 hn
      omega
  rw [ht, Nat.add_sub_cancel]
  have hs := (egA_le n e (n - egF t (e + 1)) t (by omega)).mpr ⟨by omega, by omega⟩
  have hg := ge (n - egF t (e + 1)) (by omega) (by omega)
  refine ⟨by omega, by omega, fun s hs1 hs2 c => ?_⟩
  have := (egA_le n e s t (by omega)).mp (by omega)
  omega
