/-! ===== cells are only ever more ===== -/
def zle (z z' : xZ) : Prop := zn z ≤ zn z' ∧ zs z ≤ zs z'
theorem zle.rf (z : xZ) : zle z z := ⟨Nat.le_refl _, Nat.le_refl _⟩
theorem zle.tr {a b c : xZ} (h : zle a b) (k : zle b c) : zle a c := ⟨Nat.le_trans h.1 k.1, Nat.le_trans h.2 k.2⟩
theorem zle_nwZ (z : xZ) (t n sl : Nat) : zle z (nwZ z t n sl) := ⟨Nat.le_succ _, Nat.le_add_right _ _⟩
theorem zle_nwZM (z : xZ) (n k : Nat) : zle z (nwZM z n k) := ⟨Nat.le_trans (Nat.le_succ _) (Nat.le_add_right _ _), Nat.le_add_right _ _⟩
/-- where an outcome's cells are -/
def oz (z : xZ) (o : xA) : Prop := match o with
  | none => True
  | some (.inl (_, _, z', _)) => zle z z'
  | some (.inr (.inl (_, _, _, z', _))) => z' = z
  | some (.inr (.inr (.inl _))) => True
  | some (.inr (.inr (.inr (z', _, _)))) => z' = z
theorem oz_c {L S : List xv} {z : xZ} {v : xV} : oz z (cA1 L S z v) := zle.rf z
theorem oz_j {t : Int} {L S : List xv} {z : xZ} {v : xV} : oz z (jA1 t L S z v) := rfl
theorem oz_sw {d x : Int} {L S : List xv} {z : xZ} {v : xV} : ∀ ps : List (Int × Int), oz z (oSw ps d x L S z v)
  | [] => rfl
  | (k, t) :: ps => by
    unfold oSw
    split
    · rfl
    · exact oz_sw ps
theorem oz_if {c : Jvm.ClassFile.Cond} {t x y : Int} {L S : List xv} {z : xZ} {v : xV} : oz z (oIf c t x y L S z v) := by
  cases c <;> (unfold oIf; dsimp only; split <;> first | exact zle.rf z | rfl)
theorem act_oz (i : Instr) (L S : List xv) (z : xZ) (v : xV) : oz z (act i L S z v) := by
  unfold act oBin oBinL oShL oUn oLoad oLoadA oLoadL oStore oStoreA oStoreL oInc
  repeat' split
  all_goals first
    | trivial
    | exact zle.rf z
    | rfl
    | exact oz_if
    | exact oz_sw _
    | exact zle_nwZ z _ _ _
    | exact zle_nwZM z _ _
/-- one outcome, with cells that are only more -/
abbrev xDz (E : Nat → xZ → xV → List xv → (xZ → xV → xv → Prop) → Prop) : Prop := ∀ j z v as (Q : xZ → xV → xv → Prop), E j z v as Q → ∃ z' v' r, zle z z' ∧ Q z' v' r ∧ E j z v as (fun z1 v1 r1 => z1 = z' ∧ v1 = v' ∧ r1 = r)
theorem xs_zle {E : Nat → xZ → xV → List xv → (xZ → xV → xv → Prop) → Prop} (hE : xDz E) {K : Nat → List xv → List xv → xZ → xV → Prop} {ft : Nat} {Q : xZ → xV → xv → Prop} {zo : xZ} (hK : ∀ pc L S z v, K pc L S z v → zle z zo) (hQ : ∀ z v r, Q z v r → zle z zo) : ∀ (is : List Instr) (L S : List xv) (z : xZ) (v : xV), xs E K ft Q is L S z v → zle z zo
  | [], L, S, z, v, h => hK _ _ _ _ _ h
  | i :: is, L, S, z, v, h => by
    have ho := act_oz i L S z v
    unfold xs at h
    split at h
    · exact h.elim
    · rename_i e
      rw [e] at ho
      exact zle.tr ho (xs_zle hE hK hQ is _ _ _ _ h)
    · rename_i e
      rw [e] at ho
      have ho : _ = z := ho
      rw [← ho]
      exact hK _ _ _ _ _ h
    · obtain ⟨z1, v1, r1, q1, q2, -⟩ := hE _ _ _ _ _ h
      exact zle.tr q1 (xs_zle hE hK hQ is _ _ _ _ q2)
    · rename_i e
      rw [e] at ho
      have ho : _ = z := ho
      rw [← ho]
      exact hQ _ _ _ h
theorem EvM_dz (T : Nat → Nat → List Instr × Nat) : ∀ d, xDz (EvM T d)
  | 0 => fun _ _ _ _ _ h => h.elim
  | d + 1 => fun j z v as Q h => by
    obtain ⟨z', v', r, q, k⟩ := EvM_det T (d + 1) j z v as Q h
    refine ⟨z', v', r, ?_, q, k⟩
    refine k (fun _ _ _ z _ => zle z z') ?_
    intro pc L S z v h
    exact xs_zle (EvM_dz T d) (fun _ _ _ _ _ h => h) (fun z v r h => by rw [h.1]; exact zle.rf _) _ _ _ _ _ h
/-- the arguments of a call -/
theorem spl_spec : ∀ {n : Nat} {S acc as r : List xv}, spl n S acc = some (as, r) → ∃ t, S = t ++ r ∧ as = t.reverse ++ acc ∧ t.length = n ∧ sh4 r = true ∧ ∀ x ∈ t, (∃ y, x = .inl y) ∨ ∃ a, x = .inr (.inl a)
  | 0, S, acc, as, r, h => by
    unfold spl at h
    split at h
    · rename_i hs
      cases h
      exact ⟨[], rfl, rfl, rfl, hs, fun x hx => by cases hx⟩
    · cases h
  | n + 1, [], acc, as, r, h => by simp [spl] at h
  | n + 1, .inl x :: S, acc, as, r, h => by
    obtain ⟨t, h1, h2, h3, h4, h5⟩ := spl_spec (n := n) (S := S) (acc := .inl x :: acc) h
    refine ⟨.inl x :: t, by rw [h1]; rfl, by rw [h2, List.reverse_cons, List.append_assoc]; rfl, by rw [List.length_cons, h3], h4, fun y hy => ?_⟩
    rcases List.mem_cons.mp hy with q | q
    · exact Or.inl ⟨x, q⟩
    · exact h5 y q
  | n + 1, .inr (.inl x) :: S, acc, as, r, h => by
    obtain ⟨t, h1, h2, h3, h4, h5⟩ := spl_spec (n := n) (S := S) (acc := .inr (.inl x) :: acc) h
    refine ⟨.inr (.inl x) :: t, by rw [h1]; rfl, by rw [h2, List.reverse_cons, List.append_assoc]; rfl, by rw [List.length_cons, h3], h4, fun y hy => ?_⟩
    rcases List.mem_cons.mp hy with q | q
    · exact Or.inr ⟨x, q⟩
    · exact h5 y q
  | n + 1, .inr (.inr x) :: S, acc, as, r, h => by simp [spl] at h
theorem splL_spec : ∀ {n : Nat} {S acc as r : List xv}, splL n S acc = some (as, r) → ∃ t, S = t ++ r ∧ as = t.reverse ++ acc ∧ t.length = n ∧ sh4 r = true ∧ ∀ x ∈ t, ∃ y, x = .inr (.inr (.inl y))
  | 0, S, acc, as, r, h => by
    unfold splL at h
    split at h
    · rename_i hs
      cases h
      exact ⟨[], rfl, rfl, rfl, hs, fun x hx => by cases hx⟩
    · cases h
  | n + 1, [], acc, as, r, h => by simp [splL] at h
  | n + 1, .inl x :: S, acc, as, r, h => by simp [splL] at h
  | n + 1, .inr (.inl x) :: S, acc, as, r, h => by simp [splL] at h
  | n + 1, .inr (.inr (.inl x)) :: S, acc, as, r, h => by
    obtain ⟨t, h1, h2, h3, h4, h5⟩ := splL_spec (n := n) (S := S) (acc := .inr (.inr (.inl x)) :: acc) h
    refine ⟨.inr (.inr (.inl x)) :: t, by rw [h1]; rfl, by rw [h2, List.reverse_cons, List.append_assoc]; rfl, by rw [List.length_cons, h3], h4, fun y hy => ?_⟩
    rcases List.mem_cons.mp hy with q | q
    · exact ⟨x, q⟩
    · exact h5 y q
  | n + 1, .inr (.inr (.inr x)) :: S, acc, as, r, h => by simp [splL] at h
theorem lay_len : ∀ {as : List xv}, (∀ x ∈ as, (∃ y, x = .inl y) ∨ ∃ a, x = .inr (.inl a)) → (lay as).length = as.length
  | [], _ => rfl
  | x :: l, h => by
    rcases h x List.mem_cons_self with ⟨y, rfl⟩ | ⟨a, rfl⟩
    · show (lay l).length + 1 = _
      rw [lay_len (fun y hy => h y (List.mem_cons_of_mem _ hy))]
      rfl
    · show (lay l).length + 1 = _
      rw [lay_len (fun y hy => h y (List.mem_cons_of_mem _ hy))]
      rfl
theorem lay_len2 : ∀ {as : List xv}, (∀ x ∈ as, ∃ y, x = .inr (.inr (.inl y))) → (lay as).length = 2 * as.length
  | [], _ => rfl
  | x :: l, h => by
    obtain ⟨y, rfl⟩ := h x List.mem_cons_self
    show (lay l).length + 1 + 1 = _
    rw [lay_len2 (fun y hy => h y (List.mem_cons_of_mem _ hy)), List.length_cons]
    omega
theorem sl_len {ε : xE} : ∀ (as : List xv), (∀ x ∈ as, x ≠ .inr (.inr (.inr ()))) → (lg_sl (as.map (cv ε))).length = (lay as).length
  | [], _ => rfl
  | .inl x :: l, h => by
    have ih := sl_len (ε := ε) l (fun x hx => h x (List.mem_cons_of_mem _ hx))
    show (lg_sl (Value.int (Int32.ofInt x) :: l.map (cv ε))).length = (lay l).length + 1
    rw [← ih]
    simp [lg_sl, Value.category]
  | .inr (.inl x) :: l, h => by
    have ih := sl_len (ε := ε) l (fun x hx => h x (List.mem_cons_of_mem _ hx))
    show (lg_sl (rf ε x :: l.map (cv ε))).length = (lay l).length + 1
    rw [← ih]
    have := rf_cat ε x
    simp [lg_sl, this]
  | .inr (.inr (.inl x)) :: l, h => by
    have ih := sl_len (ε := ε) l (fun x hx => h x (List.mem_cons_of_mem _ hx))
    show (lg_sl (Value.long x :: l.map (cv ε))).length = (lay l).length + 1 + 1
    rw [← ih]
    simp [lg_sl, Value.category]
  | .inr (.inr (.inr ())) :: l, h => absurd rfl (h _ List.mem_cons_self)
theorem RG.app {a b : List xv} (h : RG (a ++ b)) : RG b := by
  induction a with
  | nil => exact h
  | cons x a ih => exact ih h.tl
theorem RG_mem {L : List xv} : RG L ↔ ∀ x : Int, (.inl x : xv) ∈ L → rg x := by
  constructor
  · intro h x hx
    induction L with
    | nil => cases hx
    | cons y L ih =>
      rcases List.mem_cons.mp hx with q | q
      · subst q
        exact h.hd
      · exact ih h.tl q
  · intro h
    induction L with
    | nil => exact RG.nil
    | cons y L ih =>
      have ih := ih (fun x hx => h x (List.mem_cons_of_mem _ hx))
      match y with
      | .inl y => exact RG.cons (h y List.mem_cons_self) ih
      | .inr y => exact RG.consR ih
