/-! ===== pairs: asking comes to one end, in whatever order ===== -/
def pAsk (L : Nat → Nat → Nat) (a : Nat → Nat) (s b : Nat) : Prop := ∃ k, k < a s ∧ L s k = b
def pJ (L RB : Nat → Nat → Nat) (a : Nat → Nat) (h : Nat → Int) : Prop :=
  (∀ s, s < 4 → a s ≤ 4) ∧ (∀ b, b < 4 → h b = -1 → ∀ s, s < 4 → ¬ pAsk L a s b) ∧ (∀ b, b < 4 → ∀ s : Nat, s < 4 → h b = s → 0 < a s ∧ L s (a s - 1) = b) ∧ (∀ b, b < 4 → ∀ s : Nat, s < 4 → h b = s → ∀ s', s' < 4 → pAsk L a s' b → RB b s ≤ RB b s') ∧ (∀ b, b < 4 → h b = -1 ∨ ∃ s : Nat, s < 4 ∧ h b = s)
def pFree (h : Nat → Int) (s : Nat) : Prop := ∀ b, b < 4 → h b ≠ s
def pFin (L RB : Nat → Nat → Nat) (a : Nat → Nat) (h : Nat → Int) : Prop := pJ L RB a h ∧ ∀ s, s < 4 → ¬ pFree h s
def pK (L RB : Nat → Nat → Nat) (a : Nat → Nat) : Prop := ∀ a' h', pFin L RB a' h' → ∀ s, s < 4 → a s ≤ a' s
/-- rows of wishes: each of four once -/
def pOk (L RB : Nat → Nat → Nat) : Prop := (∀ s, s < 4 → ∀ k, k < 4 → L s k < 4) ∧ (∀ s, s < 4 → ∀ k k', k < 4 → k' < 4 → L s k = L s k' → k = k') ∧ (∀ s, s < 4 → ∀ b, b < 4 → ∃ k, k < 4 ∧ L s k = b) ∧ (∀ b, b < 4 → ∀ s s', s < 4 → s' < 4 → RB b s = RB b s' → s = s')
def upN (a : Nat → Nat) (s x : Nat) : Nat → Nat := fun i => if i = s then x else a i
def upI (h : Nat → Int) (b : Nat) (x : Int) : Nat → Int := fun i => if i = b then x else h i
theorem pigeon4 : (allB 4 fun s => allB 4 fun a => allB 4 fun b => allB 4 fun c => allB 4 fun e => (a == s || b == s || c == s || e == s || a == b || a == c || a == e || b == c || b == e || c == e)) = true := by decide +kernel
theorem p_lt {L RB : Nat → Nat → Nat} {a : Nat → Nat} {h : Nat → Int} (ok : pOk L RB) (J : pJ L RB a h) {s : Nat} (hs : s < 4) (hf : pFree h s) : a s < 4 := by
  obtain ⟨j1, j2, j3, j4, j5⟩ := J
  by_cases c : a s < 4
  · exact c
  · have h4 : a s = 4 := by have := j1 s hs; omega
    have hold : ∀ b, b < 4 → ∃ t : Nat, t < 4 ∧ h b = t ∧ t ≠ s := by
      intro b hb
      obtain ⟨k, hk, hk2⟩ := ok.2.2.1 s hs b hb
      rcases j5 b hb with e | ⟨t, ht, e⟩
      · exact absurd ⟨k, by omega, hk2⟩ (j2 b hb e s hs)
      · refine ⟨t, ht, e, fun q => hf b hb ?_⟩
        rw [e, q]
    have inj : ∀ b b', b < 4 → b' < 4 → b ≠ b' → ∀ t t' : Nat, t < 4 → t' < 4 → h b = t → h b' = t' → t ≠ t' := by
      intro b b' hb hb' hne t t' ht ht' e e' q
      subst q
      have h1 := (j3 b hb t ht e).2
      have h2 := (j3 b' hb' t ht e').2
      omega
    obtain ⟨t0, x0, y0, z0⟩ := hold 0 (by omega)
    obtain ⟨t1, x1, y1, z1⟩ := hold 1 (by omega)
    obtain ⟨t2, x2, y2, z2⟩ := hold 2 (by omega)
    obtain ⟨t3, x3, y3, z3⟩ := hold 3 (by omega)
    have n01 := inj 0 1 (by omega) (by omega) (by omega) t0 t1 x0 x1 y0 y1
    have n02 := inj 0 2 (by omega) (by omega) (by omega) t0 t2 x0 x2 y0 y2
    have n03 := inj 0 3 (by omega) (by omega) (by omega) t0 t3 x0 x3 y0 y3
    have n12 := inj 1 2 (by omega) (by omega) (by omega) t1 t2 x1 x2 y1 y2
    have n13 := inj 1 3 (by omega) (by omega) (by omega) t1 t3 x1 x3 y1 y3
    have n23 := inj 2 3 (by omega) (by omega) (by omega) t2 t3 x2 x3 y2 y3
    have := allB_spec (allB_spec (allB_spec (allB_spec (allB_spec pigeon4 s hs) t0 x0) t1 x1) t2 x2) t3 x3
    simp [z0, z1, z2, z3, n01, n02, n03, n12, n13, n23] at this
theorem p_ask {L : Nat → Nat → Nat} {a : Nat → Nat} {s t b : Nat} (h : pAsk L (upN a s (a s + 1)) t b) : pAsk L a t b ∨ (t = s ∧ b = L s (a s)) := by
  obtain ⟨k, h1, h2⟩ := h
  unfold upN at h1
  by_cases c : t = s
  · subst c
    rw [if_pos rfl] at h1
    by_cases e : k = a t
    · subst e
      exact .inr ⟨rfl, h2.symm⟩
    · exact .inl ⟨k, by omega, h2⟩
  · rw [if_neg c] at h1
    exact .inl ⟨k, h1, h2⟩
/-- he asks, and is not kept -/
theorem p_no {L RB : Nat → Nat → Nat} {a : Nat → Nat} {h : Nat → Int} (ok : pOk L RB) (J : pJ L RB a h) {s : Nat} (hs : s < 4) (hf : pFree h s) {o : Nat} (ho : o < 4) (e : h (L s (a s)) = o) (hn : ¬ RB (L s (a s)) s < RB (L s (a s)) o) : pJ L RB (upN a s (a s + 1)) h := by
  have lt := p_lt ok J hs hf
  obtain ⟨j1, j2, j3, j4, j5⟩ := J
  refine ⟨fun t ht => ?_, fun b hb q t ht r => ?_, fun b hb t ht q => ?_, fun b hb t ht q t' ht' r => ?_, j5⟩
  · unfold upN
    split
    · omega
    · exact j1 t ht
  · rcases p_ask r with r | ⟨r1, r2⟩
    · exact j2 b hb q t ht r
    · subst r2
      rw [e] at q
      omega
  · have : t ≠ s := fun c => hf b hb (by rw [q, c])
    unfold upN
    rw [if_neg this]
    exact j3 b hb t ht q
  · rcases p_ask r with r | ⟨r1, r2⟩
    · exact j4 b hb t ht q t' ht' r
    · subst r1 r2
      rw [e] at q
      have : t = o := by omega
      subst this
      omega
/-- he asks, and is kept -/
theorem p_yes {L RB : Nat → Nat → Nat} {a : Nat → Nat} {h : Nat → Int} (ok : pOk L RB) (J : pJ L RB a h) {s : Nat} (hs : s < 4) (hf : pFree h s) (hy : h (L s (a s)) = -1 ∨ ∃ o : Nat, o < 4 ∧ h (L s (a s)) = o ∧ RB (L s (a s)) s < RB (L s (a s)) o) : pJ L RB (upN a s (a s + 1)) (upI h (L s (a s)) s) := by
  have lt := p_lt ok J hs hf
  obtain ⟨j1, j2, j3, j4, j5⟩ := J
  refine ⟨fun t ht => ?_, fun b hb q t ht r => ?_, fun b hb t ht q => ?_, fun b hb t ht q t' ht' r => ?_, fun b hb => ?_⟩
  · unfold upN
    split
    · omega
    · exact j1 t ht
  · unfold upI at q
    by_cases c : b = L s (a s)
    · rw [if_pos c] at q
      omega
    · rw [if_neg c] at q
      rcases p_ask r with r | ⟨r1, r2⟩
      · exact j2 b hb q t ht r
      · exact c r2
  · unfold upI at q
    by_cases c : b = L s (a s)
    · rw [if_pos c] at q
      have : t = s := by omega
      subst this
      unfold upN
      rw [if_pos rfl]
      exact ⟨by omega, by rw [Nat.add_sub_cancel, c]⟩
    · rw [if_neg c] at q
      have : t ≠ s := fun e => hf b hb (by rw [q, e])
      unfold upN
      rw [if_neg this]
      exact j3 b hb t ht q
  · unfold upI at q
    by_cases c : b = L s (a s)
    · rw [if_pos c] at q
      have : t = s := by omega
      subst this
      rcases p_ask r with r | ⟨r1, r2⟩
      · rcases hy with hy | ⟨o, ho, hy, hl⟩
        · rw [← c] at hy
          exact absurd r (j2 b hb hy t' ht')
        · rw [← c] at hy hl
          have := j4 b hb o ho hy t' ht' r
          omega
      · subst r1
        exact Nat.le_refl _
    · rw [if_neg c] at q
      rcases p_ask r with r | ⟨r1, r2⟩
      · exact j4 b hb t ht q t' ht' r
      · exact absurd r2 c
  · unfold upI
    by_cases c : b = L s (a s)
    · rw [if_pos c]
      exact .inr ⟨s, hs, rfl⟩
    · rw [if_neg c]
      exact j5 b hb
theorem p_K {L RB : Nat → Nat → Nat} {a : Nat → Nat} {h : Nat → Int} (ok : pOk L RB) (J : pJ L RB a h) (K : pK L RB a) {s : Nat} (hs : s < 4) (hf : pFree h s) : pK L RB (upN a s (a s + 1)) := by
  intro a' h' F t ht
  have k1 := K a' h' F
  unfold upN
  by_cases c : t = s
  · subst c
    rw [if_pos rfl]
    by_cases e : a t < a' t
    · exact e
    · exfalso
      have e2 : a' t = a t := by have := k1 t ht; omega
      obtain ⟨⟨i1, i2, i3, i4, i5⟩, F2⟩ := F
      obtain ⟨j1, j2, j3, j4, j5⟩ := J
      have nf := F2 t ht
      have : ∃ b, b < 4 ∧ h' b = t := by
        by_cases x : ∃ b, b < 4 ∧ h' b = t
        · exact x
        · exact absurd (fun b hb q => x ⟨b, hb, q⟩) nf
      obtain ⟨b, hb, hbt⟩ := this
      obtain ⟨p1, p2⟩ := i3 b hb t ht hbt
      have ask : pAsk L a t b := ⟨a' t - 1, by omega, p2⟩
      rcases j5 b hb with q | ⟨o, ho, q⟩
      · exact j2 b hb q t ht ask
      · have ne : o ≠ t := fun x => hf b hb (by rw [q, x])
        have r1 := j4 b hb o ho q t ht ask
        obtain ⟨w1, w2⟩ := j3 b hb o ho q
        have ask' : pAsk L a' o b := ⟨a o - 1, by have := k1 o ho; omega, w2⟩
        have r2 := i4 b hb t ht hbt o ho ask'
        exact ne (ok.2.2.2 b hb o t ho ht (by omega))
  · rw [if_neg c]
    exact k1 t ht
theorem p_one {L RB : Nat → Nat → Nat} {a a' : Nat → Nat} {h h' : Nat → Int} (F : pFin L RB a h) (K : pK L RB a) (F' : pFin L RB a' h') (K' : pK L RB a') : ∀ s, s < 4 → a s = a' s :=
  fun s hs => Nat.le_antisymm (K a' h' F' s hs) (K' a h F s hs)
theorem p_start (L RB : Nat → Nat → Nat) : pJ L RB (fun _ => 0) (fun _ => -1) ∧ pK L RB (fun _ => 0) :=
  ⟨⟨fun _ _ => Nat.zero_le _, fun _ _ _ _ _ ⟨_, h, _⟩ => absurd h (Nat.not_lt_zero _), fun _ _ s _ h => by
    have : (-1 : Int) = s := h
    omega, fun _ _ s _ h => by
    have : (-1 : Int) = s := h
    omega, fun _ _ => .inl rfl⟩, fun _ _ _ _ _ => Nat.zero_le _⟩
