/-! ===== stands: the mathematics ===== -/
def nb (a b : Nat) : Prop := b = a + 8 ∨ a = b + 8 ∨ (b = a + 1 ∧ a % 8 ≠ 7) ∨ (a = b + 1 ∧ b % 8 ≠ 7)
theorem nb_sym {a b : Nat} (h : nb a b) : nb b a := by unfold nb at *; omega
/-- hangs together -/
def con (o : Nat → Bool) (a b : Nat) : Prop := ∀ P : Nat → Prop, P a → (∀ x y, P x → y < 64 → o y = true → nb x y → P y) → P b
theorem con_rf (o : Nat → Bool) (a : Nat) : con o a a := fun _ h _ => h
theorem con_st {o : Nat → Bool} {a x y : Nat} (h : con o a x) (hy : y < 64) (oy : o y = true) (n : nb x y) : con o a y := fun P h0 hs => hs x y (h P h0 hs) hy oy n
theorem con_tr {o : Nat → Bool} {a b c : Nat} (h : con o a b) (k : con o b c) : con o a c := fun P h0 hs => k P (h P h0 hs) hs
theorem con_sy {o : Nat → Bool} {a b : Nat} (ha : a < 64) (oa : o a = true) (h : con o a b) : con o b a := by
  have : (b < 64 ∧ o b = true) ∧ con o b a := h (fun x => (x < 64 ∧ o x = true) ∧ con o x a) ⟨⟨ha, oa⟩, con_rf o a⟩ (fun x y hx hy oy n => ⟨⟨hy, oy⟩, con_tr (con_st (con_rf o y) hx.1.1 hx.1.2 (nb_sym n)) hx.2⟩)
  exact this.2
/-- labels: each an oak's that hangs together with it, none greater -/
def labs (o : Nat → Bool) (st : Nat → Nat) : Prop := ∀ c, c < 64 → o c = true → st c ≤ c ∧ o (st c) = true ∧ con o (st c) c
def fixd (o : Nat → Bool) (st : Nat → Nat) : Prop := ∀ a b, a < 64 → b < 64 → o a = true → o b = true → nb a b → st a = st b
theorem fix_con {o : Nat → Bool} {st : Nat → Nat} (F : fixd o st) {a b : Nat} (ha : a < 64) (oa : o a = true) (h : con o a b) : b < 64 ∧ o b = true ∧ st b = st a :=
  h (fun x => x < 64 ∧ o x = true ∧ st x = st a) ⟨ha, oa, rfl⟩ (fun x y hx hy oy n => ⟨hy, oy, by rw [← hx.2.2]; exact (F x y hx.1 hy hx.2.1 oy n).symm⟩)
theorem lab_uq {o : Nat → Bool} {s s' : Nat → Nat} (L : labs o s) (F : fixd o s) (L' : labs o s') (F' : fixd o s') : ∀ c, c < 64 → o c = true → s c = s' c := by
  have key : ∀ {s s' : Nat → Nat}, labs o s → fixd o s → labs o s' → fixd o s' → ∀ c, c < 64 → o c = true → s c ≤ s' c := by
    intro s s' L F L' F' c hc oc
    obtain ⟨a1, a2, a3⟩ := L' c hc oc
    have h1 := (fix_con F (show s' c < 64 by omega) a2 a3).2.2
    have h2 := (L (s' c) (by omega) a2).1
    omega
  intro c hc oc
  exact Nat.le_antisymm (key L F L' F' c hc oc) (key L' F' L F c hc oc)
noncomputable def lsS (P : Nat → Prop) : Nat → Nat → Nat
  | 0, k => k
  | m + 1, k => @ite _ (P k) (Classical.propDecidable _) k (lsS P m (k + 1))
theorem lsS_spec (P : Nat → Prop) {x : Nat} (hx : P x) : ∀ m k, k ≤ x → x ≤ k + m → P (lsS P m k) ∧ lsS P m k ≤ x ∧ ∀ y, k ≤ y → y < lsS P m k → ¬ P y
  | 0, k, h1, h2 => by
    have : k = x := by omega
    subst this
    exact ⟨hx, Nat.le_refl _, fun y a (b : y < k) => by omega⟩
  | m + 1, k, h1, h2 => by
    unfold lsS
    by_cases c : P k
    · rw [if_pos c]
      exact ⟨c, h1, fun y a b => by omega⟩
    · rw [if_neg c]
      have hk : k ≠ x := fun e => c (by rw [e]; exact hx)
      obtain ⟨q1, q2, q3⟩ := lsS_spec P hx m (k + 1) (by omega) (by omega)
      refine ⟨q1, q2, fun y a b => ?_⟩
      by_cases e : y = k
      · rw [e]; exact c
      · exact q3 y (by omega) b
noncomputable def st0 (o : Nat → Bool) (c : Nat) : Nat := lsS (fun i => o i = true ∧ con o i c) 64 0
theorem st0_ok (o : Nat → Bool) : labs o (st0 o) ∧ fixd o (st0 o) := by
  have sp : ∀ c, c < 64 → o c = true → _ := fun c hc oc => lsS_spec (fun i => o i = true ∧ con o i c) (x := c) ⟨oc, con_rf o c⟩ 64 0 (Nat.zero_le _) (by omega)
  refine ⟨fun c hc oc => ?_, fun a b ha hb oa ob n => ?_⟩
  · obtain ⟨q1, q2, q3⟩ := sp c hc oc
    exact ⟨q2, q1.1, q1.2⟩
  · have le : ∀ a b, a < 64 → b < 64 → o a = true → o b = true → nb a b → st0 o a ≤ st0 o b := by
      intro a b ha hb oa ob n
      obtain ⟨q1, q2, q3⟩ := sp a ha oa
      obtain ⟨p1, p2, p3⟩ := sp b hb ob
      by_cases c : st0 o a ≤ st0 o b
      · exact c
      · exact absurd ⟨p1.1, con_st p1.2 ha oa (nb_sym n)⟩ (q3 (st0 o b) (Nat.zero_le _) (by unfold st0 at *; omega))
    exact Nat.le_antisymm (le a b ha hb oa ob n) (le b a hb ha ob oa (nb_sym n))
/-- sizes -/
def sz (o : Nat → Bool) (st : Nat → Nat) (r : Nat) (k : Nat) : Nat := cnt (fun c => o c = true ∧ st c = r) k
theorem cnt_mono (p : Nat → Prop) [DecidablePred p] (a : Nat) : ∀ k, cnt p a ≤ cnt p (a + k)
  | 0 => Nat.le_refl _
  | k + 1 => by
    have := cnt_mono p a k
    show _ ≤ cnt p (a + k) + _
    omega
def moR (o : Nat → Bool) (st : Nat → Nat) : Nat → Nat
  | 0 => 0
  | k + 1 => if o k = true then max (moR o st k) (sz o st (st k) (k + 1)) else moR o st k
def mgR (o : Nat → Bool) (st : Nat → Nat) : Nat → Nat
  | 0 => 0
  | t + 1 => if o t = true ∧ st t = t then max (mgR o st t) (sz o st t 64) else mgR o st t
theorem moR_le (o : Nat → Bool) (st : Nat → Nat) (y : Nat) : ∀ n, moR o st n ≤ y ↔ ∀ k, k < n → o k = true → sz o st (st k) (k + 1) ≤ y
  | 0 => ⟨fun _ k hk => absurd hk (by omega), fun _ => Nat.zero_le _⟩
  | n + 1 => by
    have ih := moR_le o st y n
    unfold moR
    by_cases c : o n = true
    · rw [if_pos c]
      constructor
      · intro h k hk ok
        by_cases e : k = n
        · rw [e]; omega
        · exact ih.mp (by omega) k (by omega) ok
      · intro h
        have h1 := ih.mpr (fun k hk ok => h k (by omega) ok)
        have h2 := h n (by omega) c
        omega
    · rw [if_neg c, ih]
      constructor
      · intro h k hk ok
        by_cases e : k = n
        · rw [e] at ok; exact absurd ok c
        · exact h k (by omega) ok
      · intro h k hk ok
        exact h k (by omega) ok
theorem mgR_le (o : Nat → Bool) (st : Nat → Nat) (y : Nat) : ∀ n, mgR o st n ≤ y ↔ ∀ t, t < n → o t = true → st t = t → sz o st t 64 ≤ y
  | 0 => ⟨fun _ k hk => absurd hk (by omega), fun _ => Nat.zero_le _⟩
  | n + 1 => by
    have ih := mgR_le o st y n
    unfold mgR
    by_cases c : o n = true ∧ st n = n
    · rw [if_pos c]
      constructor
      · intro h t ht ot et
        by_cases e : t = n
        · rw [e]; omega
        · exact ih.mp (by omega) t (by omega) ot et
      · intro h
        have h1 := ih.mpr (fun k hk ok ek => h k (by omega) ok ek)
        have h2 := h n (by omega) c.1 c.2
        omega
    · rw [if_neg c, ih]
      constructor
      · intro h t ht ot et
        by_cases e : t = n
        · rw [e] at ot et; exact absurd ⟨ot, et⟩ c
        · exact h t (by omega) ot et
      · intro h k hk ok ek
        exact h k (by omega) ok ek
theorem sz_last {o : Nat → Bool} {st : Nat → Nat} {r y : Nat} : ∀ n, (∀ k, k < n → o k = true → st k = r → sz o st r (k + 1) ≤ y) → sz o st r n ≤ y
  | 0, _ => Nat.zero_le _
  | n + 1, h => by
    have ih := sz_last n (fun k hk ok ek => h k (by omega) ok ek)
    by_cases c : o n = true ∧ st n = r
    · exact h n (by omega) c.1 c.2
    · have : sz o st r (n + 1) = sz o st r n := by
        unfold sz
        rw [cnt, if_neg c]
        rfl
      omega
theorem mo_mg {o : Nat → Bool} {st : Nat → Nat} (L : labs o st) (F : fixd o st) : moR o st 64 = mgR o st 64 := by
  have idem : ∀ c, c < 64 → o c = true → st (st c) = st c := by
    intro c hc oc
    obtain ⟨a1, a2, a3⟩ := L c hc oc
    exact ((fix_con F (show st c < 64 by omega) a2 a3).2.2).symm
  have e : ∀ y, moR o st 64 ≤ y ↔ mgR o st 64 ≤ y := by
    intro y
    rw [moR_le, mgR_le]
    constructor
    · intro h t ht ot et
      refine sz_last 64 (fun k hk ok ek => ?_)
      have := h k hk ok
      rw [ek] at this
      exact this
    · intro h k hk ok
      obtain ⟨a1, a2, a3⟩ := L k hk ok
      have h1 := h (st k) (by omega) a2 (idem k hk ok)
      have h2 := cnt_mono (fun c => o c = true ∧ st c = st k) (k + 1) (64 - (k + 1))
      rw [show k + 1 + (64 - (k + 1)) = 64 by omega] at h2
      unfold sz at *
      omega
  have h1 := (e (mgR o st 64)).mpr (Nat.le_refl _)
  have h2 := (e (moR o st 64)).mp (Nat.le_refl _)
  omega
theorem cnt_sub {p q : Nat → Prop} [DecidablePred p] [DecidablePred q] : ∀ n, (∀ i, i < n → p i → q i) → cnt p n ≤ cnt q n
  | 0, _ => Nat.le_refl _
  | n + 1, h => by
    have ih := cnt_sub n (fun i hi => h i (by omega))
    unfold cnt
    by_cases c : p n
    · rw [if_pos c, if_pos (h n (by omega) c)]; omega
    · rw [if_neg c]; split <;> omega
theorem cnt_sub1 {p q : Nat → Prop} [DecidablePred p] [DecidablePred q] {x : Nat} (hq : q x) (hp : ¬ p x) : ∀ n, x < n → (∀ i, i < n → p i → q i) → cnt p n + 1 ≤ cnt q n
  | 0, h, _ => absurd h (by omega)
  | n + 1, hx, h => by
    unfold cnt
    by_cases e : x = n
    · subst e
      have := cnt_sub x (fun i hi => h i (by omega))
      rw [if_neg hp, if_pos hq]
      omega
    · have ih := cnt_sub1 hq hp n (by omega) (fun i hi => h i (by omega))
      by_cases c : p n
      · rw [if_pos c, if_pos (h n (by omega) c)]; omega
      · rw [if_neg c]; split <;> omega
/-- a set that grows by its neighbours in w, 64 times, is closed -/
theorem grow {S : Nat → Nat → Bool} {w : Nat → Bool} (up1 : ∀ k c, c < 64 → (S (k + 1) c = true ↔ S k c = true ∨ (w c = true ∧ ∃ x, x < 64 ∧ S k x = true ∧ nb x c))) {a : Nat} (ha : a < 64) (h0 : S 0 a = true) : ∀ x c, x < 64 → c < 64 → S 64 x = true → w c = true → nb x c → S 64 c = true := by
  have sub : ∀ k c, c < 64 → S k c = true → S (k + 1) c = true := fun k c hc h => (up1 k c hc).mpr (.inl h)
  have stab : ∀ k, (∀ c, c < 64 → S (k + 1) c = true → S k c = true) → ∀ c, c < 64 → S (k + 1 + 1) c = true → S (k + 1) c = true := by
    intro k hk c hc h
    rcases (up1 (k + 1) c hc).mp h with h | ⟨h1, x, hx, h2, h3⟩
    · exact h
    · exact (up1 k c hc).mpr (.inr ⟨h1, x, hx, hk x hx h2, h3⟩)
  have main : ∀ k, (∀ c, c < 64 → S (k + 1) c = true → S k c = true) ∨ k + 1 ≤ cnt (fun c => S k c = true) 64 := by
    intro k
    induction k with
    | zero =>
      right
      have := @cnt_sub1 (fun _ => False) (fun c => S 0 c = true) _ _ a h0 (fun h => h) 64 ha (fun _ _ h => h.elim)
      omega
    | succ k ih =>
      rcases ih with ih | ih
      · left; exact stab k ih
      · by_cases c : ∀ c, c < 64 → S (k + 1) c = true → S k c = true
        · left; exact stab k c
        · right
          have : ∃ x, x < 64 ∧ S (k + 1) x = true ∧ ¬ S k x = true := by
            refine Classical.byContradiction fun q => c fun x hx h => ?_
            exact Classical.byContradiction fun q2 => q ⟨x, hx, h, q2⟩
          obtain ⟨x, hx, h1, h2⟩ := this
          have := cnt_sub1 (p := fun c => S k c = true) (q := fun c => S (k + 1) c = true) h1 h2 64 hx (fun i hi h => sub k i hi h)
          omega
  have h64 : ∀ c, c < 64 → S (64 + 1) c = true → S 64 c = true := by
    rcases main 64 with h | h
    · exact h
    · have := cnt_le (fun c => S 64 c = true) 64
      omega
  intro x c hx hc h1 h2 n
  exact h64 c hc ((up1 64 c hc).mpr (.inr ⟨h2, x, hx, h1, n⟩))
