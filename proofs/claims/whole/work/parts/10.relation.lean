/-! ===== what of a heap the small machine's cells are ===== -/
/-- the place of cell 16, the heap at the start, slots of fields, array classes, the references 1 .. 15, their kinds and contents -/
abbrev xE : Type := Nat × Heap × va_G × (Nat → ClassId) × (Nat → Option Nat) × xZ × xV
def eB (ε : xE) : Nat := ε.1
def eH (ε : xE) : Heap := ε.2.1
def eD (ε : xE) : va_G := ε.2.2.1
def eC (ε : xE) : Nat → ClassId := ε.2.2.2.1
def eR (ε : xE) : Nat → Option Nat := ε.2.2.2.2.1
def eZ (ε : xE) : xZ := ε.2.2.2.2.2.1
def eV (ε : xE) : xV := ε.2.2.2.2.2.2
def eA (ε : xE) : Nat → Prop := fun q => eB ε ≤ q
def ra (ε : xE) (a : Nat) : Nat := eB ε + (a - 16)
def rf (ε : xE) (a : Nat) : Value := if a = 0 then .null else if a < 16 then va_rf (eR ε a) else .ref (ra ε a)
def cv (ε : xE) : xv → Value
  | .inl x => .int (Int32.ofInt x)
  | .inr (.inl a) => rf ε a
  | .inr (.inr (.inl x)) => .long x
  | .inr (.inr (.inr _)) => .null
def kd (t k : Nat) : Nat := if t < 50 then (if isRefT (fy t k) = true then 1 else 0) else if t = 102 then 2 else if t = 104 ∨ t = 105 then 1 else 0
def sv (ε : xE) (z : xZ) (v : xV) (a k : Nat) : Value := if kd (zh z a) k = 1 then rf ε (zr z a k) else if kd (zh z a) k = 2 then .long (zw z a k) else .int (Int32.ofInt (v a k))
def aT (t : Nat) : Prop := t = 100 ∨ t = 101 ∨ t = 102 ∨ t = 104 ∨ t = 105
def cellOk (ε : xE) (z : xZ) (v : xV) (H : Heap) (a : Nat) : Prop :=
  (zh z a < 11 ∧ t_OB (ra ε a) ((eD ε).1 (zh z a)) (cN (zh z a)) ((eD ε).2 (zh z a)) H (sv ε z v a)) ∨ (aT (zh z a) ∧ H[ra ε a]? = some (arrV (eC ε (zh z a)) (zl z a) (sv ε z v a)))
def agr (b : Nat) (z : xZ) (v : xV) (z' : xZ) (v' : xV) : Prop := zh z' b = zh z b ∧ zl z' b = zl z b ∧ (∀ k, zr z' b k = zr z b k) ∧ (∀ k, zw z' b k = zw z b k) ∧ ∀ k, v' b k = v b k
theorem agr.rf {b : Nat} {z : xZ} {v : xV} : agr b z v z v := ⟨rfl, rfl, fun _ => rfl, fun _ => rfl, fun _ => rfl⟩
theorem sv_agr {ε : xE} {b : Nat} {z z' : xZ} {v v' : xV} (h : agr b z v z' v') : sv ε z' v' b = sv ε z v b := by
  obtain ⟨h1, h2, h3, h4, h5⟩ := h
  funext k
  unfold sv
  rw [h1, h3, h4, h5]
theorem cellOk.same {ε : xE} {b : Nat} {z z' : xZ} {v v' : xV} {H H' : Heap} (h : cellOk ε z v H b) (ag : agr b z v z' v') (hH : H'[ra ε b]? = H[ra ε b]?) : cellOk ε z' v' H' b := by
  have hs := sv_agr (ε := ε) ag
  unfold cellOk at *
  rw [ag.1, ag.2.1, hs]
  rcases h with ⟨h1, h2⟩ | ⟨h1, h2⟩
  · exact Or.inl ⟨h1, h2.kept hH⟩
  · exact Or.inr ⟨h1, by rw [hH]; exact h2⟩
def RelH (ε : xE) (z : xZ) (v : xV) (H : Heap) : Prop :=
  (16 ≤ zn z ∧ H.size + 16 = eB ε + zn z) ∧ (∀ q, q < eB ε → H[q]? = (eH ε)[q]?) ∧ (∀ a, 16 ≤ a → a < zn z → cellOk ε z v H a) ∧
  (∀ a, a < 16 → agr a (eZ ε) (eV ε) z v) ∧ (∀ a k, rg (v a k)) ∧ (∀ a, zl z a < 2147483648) ∧ ∀ a, zn z ≤ a → zh z a = 119
theorem ra_lt {ε : xE} {z : xZ} {v : xV} {H : Heap} (h : RelH ε z v H) {a : Nat} (h1 : 16 ≤ a) : ra ε a < H.size ↔ a < zn z := by
  obtain ⟨⟨h2, h3⟩, -⟩ := h
  unfold ra
  omega
theorem ra_inj {ε : xE} {a b : Nat} (ha : 16 ≤ a) (hb : 16 ≤ b) (h : ra ε a = ra ε b) : a = b := by
  unfold ra at h
  omega
theorem rf_hi {ε : xE} {a : Nat} (h : 16 ≤ a) : rf ε a = .ref (ra ε a) := by
  unfold rf
  rw [if_neg (by omega), if_neg (by omega)]
/-- one cell is other, at most, and cells may be new -/
theorem RelH.step {ε : xE} {z z' : xZ} {v v' : xV} {H H' : Heap} (h : RelH ε z v H) (hn : zn z ≤ zn z') (hsz : H'.size + 16 = eB ε + zn z') (hlo : ∀ q, q < eB ε → H'[q]? = H[q]?)
    (hc : ∀ b, 16 ≤ b → b < zn z' → (b < zn z ∧ agr b z v z' v' ∧ H'[ra ε b]? = H[ra ε b]?) ∨ cellOk ε z' v' H' b) (hs : ∀ b, b < 16 → agr b z v z' v')
    (hr : ∀ a k, rg (v' a k)) (hl : ∀ a, zl z' a < 2147483648) (ho : ∀ a, zn z' ≤ a → zh z' a = 119) : RelH ε z' v' H' := by
  obtain ⟨⟨h1, h2⟩, h3, h4, h5, h6, h7, h8⟩ := h
  refine ⟨⟨by omega, hsz⟩, fun q hq => (hlo q hq).trans (h3 q hq), fun a ha hb => ?_, fun a ha => ?_, hr, hl, ho⟩
  · rcases hc a ha hb with ⟨q1, q2, q3⟩ | q
    · exact (h4 a ha q1).same q2 q3
    · exact q
  · obtain ⟨a1, a2, a3, a4, a5⟩ := h5 a ha
    obtain ⟨b1, b2, b3, b4, b5⟩ := hs a ha
    exact ⟨b1.trans a1, b2.trans a2, fun k => (b3 k).trans (a3 k), fun k => (b4 k).trans (a4 k), fun k => (b5 k).trans (a5 k)⟩
/-- one old cell is written -/
theorem RelH.set {ε : xE} {z z' : xZ} {v v' : xV} {H H' : Heap} (h : RelH ε z v H) {a : Nat} (ha : 16 ≤ a) (hn : zn z' = zn z) (hsz : H'.size = H.size) (ho : ∀ q, q ≠ ra ε a → H'[q]? = H[q]?)
    (hc : cellOk ε z' v' H' a) (hag : ∀ b, b ≠ a → agr b z v z' v') (hh : zh z' a = zh z a) (hl : zl z' a = zl z a) (hr : ∀ k, rg (v' a k)) : RelH ε z' v' H' := by
  obtain ⟨⟨h1, h2⟩, h3, h4, h5, h6, h7, h8⟩ := id h
  refine h.step (by omega) (by omega) (fun q hq => ho q (by unfold ra; omega)) (fun b hb1 hb2 => ?_) (fun b hb => hag b (by omega)) (fun b k => ?_) (fun b => ?_) (fun b hb => ?_)
  · by_cases e : b = a
    · subst e; exact Or.inr hc
    · exact Or.inl ⟨by omega, hag b e, ho _ (fun q => e (ra_inj hb1 ha q))⟩
  · by_cases e : b = a
    · subst e; exact hr k
    · rw [(hag b e).2.2.2.2 k]; exact h6 b k
  · by_cases e : b = a
    · subst e; rw [hl]; exact h7 b
    · rw [(hag b e).2.1]; exact h7 b
  · by_cases e : b = a
    · subst e; rw [hh]; exact h8 b (by omega)
    · rw [(hag b e).1]; exact h8 b (by omega)
def tyL (ε : xE) : List (ClassId × FieldType) := [(eC ε 100, .int), (eC ε 101, .char), (eC ε 102, .long), (eC ε 104, .object "GriefWood$Scene"), (eC ε 105, .array .int)]
/-- what holds of the tables, and of what was there before -/
def Tab (ε : xE) (U : State) : Prop :=
  ((∀ a, a < 16 → zh (eZ ε) a = 50 ∨ zh (eZ ε) a = 110 ∨ zh (eZ ε) a = 111 ∨ zh (eZ ε) a = 119) ∧ (eH ε).size = eB ε) ∧
  va_K (eD ε) clsL (tyL ε) U ∧ (∀ q ∈ nwQ, va_Nw (.methodLinkNest q.1 q.2.1 q.2.2.1 q.2.2.2) U) ∧
  (∀ q ∈ tS, va_Z q.2.2.1 q.2.2.2.1 q.2.2.2.2.1 (cv ε (match q.2.2.2.2.2 with | .inl c => .inl c | .inr a => .inr (.inl a))) (eA ε) U (eH ε)) ∧
  (∀ q ∈ tT, ∃ r, rf ε q.2.2.1 = .ref r ∧ vk_R (on q.1) q.2.1 q.2.2.2 r U) ∧
  (∀ a, a < 16 → (zh (eZ ε) a = 110 → ∃ r, rf ε a = .ref r ∧ va_T .int r (zl (eZ ε) a) (fun k => .int (Int32.ofInt (eV ε a k))) (eA ε) U (eH ε)) ∧
    (zh (eZ ε) a = 111 → ∃ r, rf ε a = .ref r ∧ va_T .byte r (zl (eZ ε) a) (fun k => .int (Int32.ofInt (eV ε a k))) (eA ε) U (eH ε)) ∧
    (zh (eZ ε) a = 50 → ∃ r, rf ε a = .ref r ∧ va_O "java/lang/String" r (eA ε) U (eH ε) ∧ va_OF "java/lang/String" "coder" "B" (.int (Int32.ofInt (eV ε a 1))) r (eA ε) U (eH ε) ∧ va_OF "java/lang/String" "value" "[B" (rf ε (zr (eZ ε) a 0)) r (eA ε) U (eH ε))) ∧
  va_AO "GriefWood$Scene" U ∧ (Cond.arrayOver (.array .int)).before #[] U = true
theorem ao_moved {ty : FieldType} {u U : State} (hvm : u.vm.Alike U.vm) (h : (Cond.arrayOver ty).before #[] u = true) : (Cond.arrayOver ty).before #[] U = true :=
  (Cond.arrayOver_setVmC (args := #[]) (s := u) hvm ty).trans h
theorem Tab.warm {ε : xE} {s U : State} (hW : s.WarmedH U.vm) (h : Tab ε s) : Tab ε U := by
  obtain ⟨h0, h1, h2, h3, h4, h5, h6, h7⟩ := h
  have hv := hW.alike
  refine ⟨h0, va_K.moved hv h1, fun q hq => va_Nw.warmM hW (h2 q hq), fun q hq => (h3 q hq).moved hv, fun q hq => ?_, fun a ha => ⟨fun e => ?_, fun e => ?_, fun e => ?_⟩, va_AO.moved hv h6, ao_moved hv h7⟩
  · obtain ⟨r, r1, r2⟩ := h4 q hq
    exact ⟨r, r1, vk_R.warm hW r2⟩
  · obtain ⟨r, r1, r2⟩ := (h5 a ha).1 e
    exact ⟨r, r1, r2.moved hv⟩
  · obtain ⟨r, r1, r2⟩ := (h5 a ha).2.1 e
    exact ⟨r, r1, r2.moved hv⟩
  · obtain ⟨r, r1, r2, r3, r4⟩ := (h5 a ha).2.2 e
    exact ⟨r, r1, r2.moved hv, r3.moved hv, r4.moved hv⟩
theorem Tab.same {ε : xE} {u U : State} (hv : u.vm = U.vm) (h : Tab ε u) : Tab ε U := by
  obtain ⟨h0, h1, h2, h3, h4, h5, h6, h7⟩ := h
  have ha : u.vm.Alike U.vm := hv ▸ Vm.Alike.refl u.vm
  refine ⟨h0, va_K.moved ha h1, fun q hq => va_Nw.same rfl hv (h2 q hq), fun q hq => (h3 q hq).moved ha, fun q hq => ?_, fun a h => ⟨fun e => ?_, fun e => ?_, fun e => ?_⟩, va_AO.moved ha h6, ao_moved ha h7⟩
  · obtain ⟨r, r1, r2⟩ := h4 q hq
    exact ⟨r, r1, vk_R.same hv.symm r2⟩
  · obtain ⟨r, r1, r2⟩ := (h5 a h).1 e
    exact ⟨r, r1, r2.moved ha⟩
  · obtain ⟨r, r1, r2⟩ := (h5 a h).2.1 e
    exact ⟨r, r1, r2.moved ha⟩
  · obtain ⟨r, r1, r2, r3, r4⟩ := (h5 a h).2.2 e
    exact ⟨r, r1, r2.moved ha, r3.moved ha, r4.moved ha⟩
/-- an object of kind t -/
theorem obj_at {ε : xE} {z : xZ} {v : xV} {H : Heap} {U : State} (hT : Tab ε U) (h : RelH ε z v H) {a t : Nat} (e : zh z a = t) (ht : t < 11) : 16 ≤ a ∧ a < zn z ∧ t_OB (ra ε a) ((eD ε).1 t) (cN t) ((eD ε).2 t) H (sv ε z v a) := by
  obtain ⟨⟨h1, h2⟩, h3, h4, h5, h6, h7, h8⟩ := h
  have ha : 16 ≤ a := by
    rcases Nat.lt_or_ge a 16 with q | q
    · have := hT.1.1 a q
      have := (h5 a q).1
      omega
    · exact q
  have hb : a < zn z := by
    rcases Nat.lt_or_ge a (zn z) with q | q
    · exact q
    · have := h8 a q
      omega
  refine ⟨ha, hb, ?_⟩
  rcases h4 a ha hb with ⟨q1, q2⟩ | ⟨q1, q2⟩
  · rw [e] at q2
    exact q2
  · unfold aT at q1
    omega
/-- an array of kind t -/
theorem arr_at {ε : xE} {z : xZ} {v : xV} {H : Heap} {U : State} (hT : Tab ε U) (h : RelH ε z v H) {a t : Nat} (e : zh z a = t) (ht : aT t) : 16 ≤ a ∧ a < zn z ∧ H[ra ε a]? = some (arrV (eC ε t) (zl z a) (sv ε z v a)) := by
  obtain ⟨⟨h1, h2⟩, h3, h4, h5, h6, h7, h8⟩ := h
  unfold aT at ht
  have ha : 16 ≤ a := by
    rcases Nat.lt_or_ge a 16 with q | q
    · have := hT.1.1 a q
      have := (h5 a q).1
      omega
    · exact q
  have hb : a < zn z := by
    rcases Nat.lt_or_ge a (zn z) with q | q
    · exact q
    · have := h8 a q
      omega
  refine ⟨ha, hb, ?_⟩
  rcases h4 a ha hb with ⟨q1, q2⟩ | ⟨q1, q2⟩
  · omega
  · rw [e] at q2
    exact q2
/-- what was there before: kind 50, 110, 111 -/
theorem old_at {ε : xE} {z : xZ} {v : xV} {H : Heap} {U : State} (hT : Tab ε U) (h : RelH ε z v H) {a t : Nat} (e : zh z a = t) (ht : t = 50 ∨ t = 110 ∨ t = 111) : a < 16 := by
  obtain ⟨⟨h1, h2⟩, h3, h4, h5, h6, h7, h8⟩ := h
  rcases Nat.lt_or_ge a 16 with q | q
  · exact q
  · rcases Nat.lt_or_ge a (zn z) with q1 | q1
    · rcases h4 a q q1 with ⟨q1, q2⟩ | ⟨q1, q2⟩
      · omega
      · unfold aT at q1
        omega
    · have := h8 a q1
      omega
theorem RelH.kept {ε : xE} {z : xZ} {v : xV} {H : Heap} {U : State} (hT : Tab ε U) (h : RelH ε z v H) : ∀ a : Nat, a < (eH ε).size → ¬ eA ε a → H[a]? = (eH ε)[a]? := fun a h1 _ => h.2.1 a (by rw [← hT.1.2]; exact h1)
