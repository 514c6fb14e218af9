/-! ===== locals ===== -/
def pr (ε : xE) : List xv → Nat → List (Nat × Value)
  | [], _ => []
  | .inr (.inr (.inr _)) :: l, i => pr ε l (i + 1)
  | .inl x :: l, i => (i, cv ε (.inl x)) :: pr ε l (i + 1)
  | .inr (.inl x) :: l, i => (i, cv ε (.inr (.inl x))) :: pr ε l (i + 1)
  | .inr (.inr (.inl x)) :: l, i => (i, cv ε (.inr (.inr (.inl x)))) :: pr ε l (i + 1)
theorem pr_mem {ε : xE} : ∀ {L : List xv} {i : Nat} {q : Nat × Value}, q ∈ pr ε L i ↔ ∃ k x, q = (i + k, cv ε x) ∧ nth L k = x ∧ x ≠ .inr (.inr (.inr ()))
  | [], i, q => by
    constructor
    · intro h; cases h
    · rintro ⟨k, x, -, h, n⟩
      exact absurd h.symm n
  | y :: l, i, q => by
    have ih := pr_mem (ε := ε) (L := l) (i := i + 1) (q := q)
    have key : ∀ y0 : xv, y0 = y → y0 ≠ .inr (.inr (.inr ())) → (q ∈ (i, cv ε y0) :: pr ε l (i + 1) ↔ ∃ k x, q = (i + k, cv ε x) ∧ nth (y :: l) k = x ∧ x ≠ .inr (.inr (.inr ()))) := by
      rintro _ rfl hy
      rw [List.mem_cons, ih]
      constructor
      · rintro (rfl | ⟨k, x, rfl, h2, h3⟩)
        · exact ⟨0, _, rfl, rfl, hy⟩
        · exact ⟨k + 1, x, by rw [Nat.add_assoc, Nat.add_comm 1 k], h2, h3⟩
      · rintro ⟨k, x, rfl, h2, h3⟩
        cases k with
        | zero => exact Or.inl (by rw [← h2]; rfl)
        | succ k => exact Or.inr ⟨k, x, by rw [Nat.add_assoc, Nat.add_comm 1 k], h2, h3⟩
    match y, key with
    | .inl x, key => exact key _ rfl (by simp)
    | .inr (.inl x), key => exact key _ rfl (by simp)
    | .inr (.inr (.inl x)), key => exact key _ rfl (by simp)
    | .inr (.inr (.inr ())), _ =>
      show q ∈ pr ε l (i + 1) ↔ _
      rw [ih]
      constructor
      · rintro ⟨k, x, rfl, h2, h3⟩
        exact ⟨k + 1, x, by rw [Nat.add_assoc, Nat.add_comm 1 k], h2, h3⟩
      · rintro ⟨k, x, rfl, h2, h3⟩
        cases k with
        | zero => exact absurd h2.symm h3
        | succ k => exact ⟨k, x, by rw [Nat.add_assoc, Nat.add_comm 1 k], h2, h3⟩
theorem nth_sto : ∀ (L : List xv) (i : Nat) (x : xv) (k : Nat), nth (sto L i x) k = if k = i then x else if k + 1 = i then clr (nth L k) 0 else nth L k
  | [], 0, x, k => by
    cases k with
    | zero => rfl
    | succ k => rfl
  | [], i + 1, x, k => by
    cases k with
    | zero =>
      show (Sum.inr (Sum.inr (Sum.inr ())) : xv) = _
      rw [if_neg (by omega)]
      split <;> rfl
    | succ k =>
      have h := nth_sto [] i x k
      show nth (sto [] i x) k = _
      rw [h]
      simp only [Nat.add_right_cancel_iff, nth]
  | a :: l, 0, x, k => by
    cases k with
    | zero => rfl
    | succ k => rfl
  | a :: l, i + 1, x, k => by
    cases k with
    | zero =>
      show clr a i = _
      rw [if_neg (by omega)]
      by_cases e : i = 0
      · subst e; rfl
      · rw [if_neg (by omega)]
        cases i with
        | zero => exact absurd rfl e
        | succ i =>
          show clr a (i + 1) = a
          match a with
          | .inl _ => rfl
          | .inr (.inl _) => rfl
          | .inr (.inr _) => rfl
    | succ k =>
      have h := nth_sto l i x k
      show nth (sto l i x) k = _
      rw [h]
      simp only [Nat.add_right_cancel_iff, nth]
theorem clr_s (a : xv) (i : Nat) : clr a (i + 1) = a := by
  match a with
  | .inl _ => rfl
  | .inr (.inl _) => rfl
  | .inr (.inr _) => rfl
theorem nth_stoL : ∀ (L : List xv) (i : Nat) (x : xv) (k : Nat), nth (stoL L i x) k = if k = i then x else if k = i + 1 then .inr (.inr (.inr ())) else if k + 1 = i then clr (nth L k) 0 else nth L k
  | [], 0, x, k => by
    match k with
    | 0 => rfl
    | 1 => rfl
    | k + 2 => rfl
  | [_], 0, x, k => by
    match k with
    | 0 => rfl
    | 1 => rfl
    | k + 2 => rfl
  | _ :: _ :: l, 0, x, k => by
    match k with
    | 0 => rfl
    | 1 => rfl
    | k + 2 => rfl
  | [], i + 1, x, k => by
    cases k with
    | zero =>
      show (Sum.inr (Sum.inr (Sum.inr ())) : xv) = _
      rw [if_neg (by omega), if_neg (by omega)]
      split <;> rfl
    | succ k =>
      have h := nth_stoL [] i x k
      show nth (stoL [] i x) k = _
      rw [h]
      simp only [Nat.add_right_cancel_iff, nth]
  | a :: l, i + 1, x, k => by
    have hs : stoL (a :: l) (i + 1) x = clr a i :: stoL l i x := by cases l <;> rfl
    rw [hs]
    cases k with
    | zero =>
      show clr a i = _
      rw [if_neg (by omega), if_neg (by omega)]
      by_cases e : i = 0
      · subst e; rfl
      · rw [if_neg (by omega)]
        cases i with
        | zero => exact absurd rfl e
        | succ i => exact clr_s a i
    | succ k =>
      have h := nth_stoL l i x k
      show nth (stoL l i x) k = _
      rw [h]
      simp only [Nat.add_right_cancel_iff, nth]
theorem rf_cat (ε : xE) (a : Nat) : (rf ε a).category = 1 := by
  unfold rf
  split
  · rfl
  · split
    · cases eR ε a <;> rfl
    · rfl
theorem clr_ne {y : xv} (h : clr y 0 ≠ .inr (.inr (.inr ()))) : clr y 0 = y ∧ ∀ ε, (cv ε y).category = 1 := by
  match y, h with
  | .inl _, _ => exact ⟨rfl, fun ε => rfl⟩
  | .inr (.inl a), _ => exact ⟨rfl, fun ε => rf_cat ε a⟩
  | .inr (.inr _), h => exact absurd rfl h
def LR (ε : xE) (ls : Array Slot) (n : Nat) (L : List xv) : Prop := lv_has ls n (pr ε L 0)
theorem LR.get {ε : xE} {ls : Array Slot} {n : Nat} {L : List xv} (h : LR ε ls n L) {k : Nat} {x : xv} (hk : nth L k = x) (hx : x ≠ .inr (.inr (.inr ()))) : ls[k]? = some (.val (cv ε x)) :=
  h.2.2 (k, cv ε x) (pr_mem.mpr ⟨k, x, by rw [Nat.zero_add], hk, hx⟩)
theorem LR.sto {ε : xE} {ls' : Array Slot} {n : Nat} {L : List xv} {i : Nat} {x : xv} (h : lv_has ls' n ((i, cv ε x) :: (pr ε L 0).filter (fun q => !(q.1 == i) && !(q.1 + 1 == i && q.2.category == 2)))) : LR ε ls' n (sto L i x) := by
  refine ⟨h.1, h.2.1, fun q hq => h.2.2 q ?_⟩
  obtain ⟨k, y, rfl, h2, h3⟩ := pr_mem.mp hq
  rw [Nat.zero_add]
  rw [nth_sto] at h2
  by_cases e : k = i
  · rw [if_pos e] at h2
    subst e; subst h2
    exact List.mem_cons_self
  · rw [if_neg e] at h2
    refine List.mem_cons_of_mem _ (List.mem_filter.mpr ?_)
    by_cases e2 : k + 1 = i
    · rw [if_pos e2] at h2
      obtain ⟨c1, c2⟩ := clr_ne (h2 ▸ h3)
      rw [c1] at h2
      subst h2
      exact ⟨pr_mem.mpr ⟨k, _, by rw [Nat.zero_add], rfl, h3⟩, by simp [e, c2 ε]⟩
    · rw [if_neg e2] at h2
      subst h2
      exact ⟨pr_mem.mpr ⟨k, _, by rw [Nat.zero_add], rfl, h3⟩, by simp [e, e2]⟩
theorem LR.stoL {ε : xE} {ls' : Array Slot} {n : Nat} {L : List xv} {i : Nat} {x : xv} (h : lv_has ls' n ((i, cv ε x) :: (pr ε L 0).filter (fun q => !(q.1 == i) && (!(q.1 == i + 1) && !(q.1 + 1 == i && q.2.category == 2))))) : LR ε ls' n (stoL L i x) := by
  refine ⟨h.1, h.2.1, fun q hq => h.2.2 q ?_⟩
  obtain ⟨k, y, rfl, h2, h3⟩ := pr_mem.mp hq
  rw [Nat.zero_add]
  rw [nth_stoL] at h2
  by_cases e : k = i
  · rw [if_pos e] at h2
    subst e; subst h2
    exact List.mem_cons_self
  · rw [if_neg e] at h2
    by_cases e3 : k = i + 1
    · rw [if_pos e3] at h2
      exact absurd h2.symm h3
    · rw [if_neg e3] at h2
      refine List.mem_cons_of_mem _ (List.mem_filter.mpr ?_)
      by_cases e2 : k + 1 = i
      · rw [if_pos e2] at h2
        obtain ⟨c1, c2⟩ := clr_ne (h2 ▸ h3)
        rw [c1] at h2
        subst h2
        exact ⟨pr_mem.mpr ⟨k, _, by rw [Nat.zero_add], rfl, h3⟩, by simp [e, e3, c2 ε]⟩
      · rw [if_neg e2] at h2
        subst h2
        exact ⟨pr_mem.mpr ⟨k, _, by rw [Nat.zero_add], rfl, h3⟩, by simp [e, e2, e3]⟩
/-- every int is one of 32 bits -/
def RG (L : List xv) : Prop := ∀ (k : Nat) (x : Int), nth L k = .inl x → rg x
theorem RG.tl {x : xv} {L : List xv} (h : RG (x :: L)) : RG L := fun k y e => h (k + 1) y e
theorem RG.hd {x : Int} {L : List xv} (h : RG (.inl x :: L)) : rg x := h 0 x rfl
theorem RG.cons {x : Int} {L : List xv} (hx : rg x) (h : RG L) : RG (.inl x :: L) := fun k y e => by
  cases k with
  | zero => cases e; exact hx
  | succ k => exact h k y e
theorem RG.consR {x : Nat ⊕ (Int64 ⊕ Unit)} {L : List xv} (h : RG L) : RG (.inr x :: L) := fun k y e => by
  cases k with
  | zero => cases e
  | succ k => exact h k y e
theorem RG.nil : RG [] := fun k y e => by cases e
theorem RG.sto {L : List xv} {i : Nat} {x : xv} (h : RG L) (hx : ∀ y, x = .inl y → rg y) : RG (sto L i x) := fun k y e => by
  rw [nth_sto] at e
  split at e
  · exact hx y e
  · split at e
    · refine h k y ?_
      match nth L k, e with
      | .inl _, e => exact e
      | .inr (.inl _), e => cases e
      | .inr (.inr _), e => cases e
    · exact h k y e
theorem RG.stoL {L : List xv} {i : Nat} {x : xv} (h : RG L) (hx : ∀ y, x = .inl y → rg y) : RG (stoL L i x) := fun k y e => by
  rw [nth_stoL] at e
  split at e
  · exact hx y e
  · split at e
    · cases e
    · split at e
      · refine h k y ?_
        match nth L k, e with
        | .inl _, e => exact e
        | .inr (.inl _), e => cases e
        | .inr (.inr _), e => cases e
      · exact h k y e
/-- arguments as locals -/
theorem pr_lay {ε : xE} : ∀ (as : List xv) (i : Nat), (∀ x ∈ as, x ≠ .inr (.inr (.inr ()))) → pr ε (lay as) i = lv_args i (as.map (cv ε))
  | [], i, _ => rfl
  | .inl x :: l, i, h => by
    show (i, cv ε (.inl x)) :: pr ε (lay l) (i + 1) = (i, cv ε (.inl x)) :: lv_args (i + 1) (l.map (cv ε))
    rw [pr_lay l (i + 1) (fun x hx => h x (List.mem_cons_of_mem _ hx))]
  | .inr (.inl x) :: l, i, h => by
    show (i, cv ε (.inr (.inl x))) :: pr ε (lay l) (i + 1) = (i, cv ε (.inr (.inl x))) :: lv_args (if (rf ε x).category = 2 then i + 2 else i + 1) (l.map (cv ε))
    rw [rf_cat, if_neg (by decide), pr_lay l (i + 1) (fun x hx => h x (List.mem_cons_of_mem _ hx))]
  | .inr (.inr (.inl x)) :: l, i, h => by
    show (i, cv ε (.inr (.inr (.inl x)))) :: pr ε (lay l) (i + 1 + 1) = (i, cv ε (.inr (.inr (.inl x)))) :: lv_args (i + 2) (l.map (cv ε))
    rw [pr_lay l (i + 2) (fun x hx => h x (List.mem_cons_of_mem _ hx))]
  | .inr (.inr (.inr ())) :: l, i, h => absurd rfl (h _ List.mem_cons_self)
theorem RG.lay : ∀ {as : List xv}, RG as → RG (lay as)
  | [], h => h
  | .inl x :: l, h => RG.cons h.hd (RG.lay h.tl)
  | .inr (.inl x) :: l, h => RG.consR (RG.lay h.tl)
  | .inr (.inr (.inl x)) :: l, h => RG.consR (RG.consR (RG.lay h.tl))
  | .inr (.inr (.inr ())) :: l, h => RG.consR (RG.lay h.tl)
