/-! ===== after the constructors all holds ===== -/
set_option maxHeartbeats 4000000
set_option maxRecDepth 8000
def chk (a : Nat) : Option Cd → Bool
  | none => false
  | some c => Nat.beq c.1 (LHt.getD a 0) && (Nat.beq c.2.1 (LLt.getD a 0) && allB 128 fun k => Nat.beq (rlk c.2.2.1 k) ((LRt.getD a []).getD k 0))
theorem chk_1 : (allB 192 fun i => chk (16 + i) gwT[i]?) = true := by decide +kernel
theorem chk_2 : (allB 42 fun i => chk (208 + i) mdT[i]?) = true := by decide +kernel
theorem chk_ok {a : Nat} {o : Option Cd} {z : xZ} {v : xV} (h : chk a o = true) (hc : ∀ c, o = some c → Cel z v a c) : zh z a = LHt.getD a 0 ∧ zl z a = LLt.getD a 0 ∧ ∀ k, k < 128 → zr z a k = (LRt.getD a []).getD k 0 := by
  cases o with
  | none => exact absurd h (fun q => by cases q)
  | some c =>
    have k := hc c rfl
    have h' : (Nat.beq c.1 (LHt.getD a 0) && (Nat.beq c.2.1 (LLt.getD a 0) && allB 128 fun k => Nat.beq (rlk c.2.2.1 k) ((LRt.getD a []).getD k 0))) = true := h
    rw [Bool.and_eq_true, Bool.and_eq_true] at h'
    exact ⟨k.1.trans (Nat.eq_of_beq_eq_true h'.1), k.2.1.trans (Nat.eq_of_beq_eq_true h'.2.1), fun j hj => (k.2.2.1 j).trans (Nat.eq_of_beq_eq_true (allB_spec h'.2.2 j hj))⟩
/-- the ints of a cell are all 0 -/
def zro : Option Cd → Bool
  | none => false
  | some c => c.2.2.2.all fun p => p.2 == 0
theorem ilk_0 : ∀ (l : List (Nat × Int)) (k : Nat), (l.all fun p => p.2 == 0) = true → ilk l k = 0
  | [], _, _ => rfl
  | (f, x) :: l, k, h => by
    rw [List.all_cons, Bool.and_eq_true] at h
    show (if k = f then x else ilk l k) = 0
    by_cases c : k = f
    · rw [if_pos c]; exact eq_of_beq h.1
    · rw [if_neg c]; exact ilk_0 l k h.2
def okz (a : Nat) : Bool := if a < 208 then zro gwT[a - 16]? else zro mdT[a - 208]?
theorem ilk_big : ∀ (l : List (Nat × Int)) (k : Nat), (l.all fun p => decide (p.1 < 138)) = true → 138 ≤ k → ilk l k = 0
  | [], _, _, _ => rfl
  | (f, x) :: l, k, h, hk => by
    rw [List.all_cons, Bool.and_eq_true] at h
    have hf : f < 138 := of_decide_eq_true h.1
    show (if k = f then x else ilk l k) = 0
    rw [if_neg (by omega)]
    exact ilk_big l k h.2 hk
def wrd : List (Nat × Int) := match mdT[7]? with
  | some c => c.2.2.2
  | none => []
theorem wrd_1 : (wrd.all fun p => decide (p.1 < 138)) = true := by decide +kernel
theorem wrd_2 : (allB 138 fun k => decide (ilk wrd k = strM k)) = true := by decide +kernel
theorem wrd_3 : sbM.length = 138 := by decide +kernel
theorem wrd_ok (k : Nat) : ilk wrd k = strM k := by
  by_cases c : k < 138
  · exact of_decide_eq_true (allB_spec wrd_2 k c)
  · rw [ilk_big wrd k wrd_1 (by omega)]
    unfold strM
    rw [List.getD_eq_getElem?_getD, List.getElem?_eq_none (by rw [wrd_3]; omega)]
    rfl
/-- what is so before the constructors -/
def St0 (L : Nat) (z : xZ) (v : xV) : Prop := zn z = 16 ∧ zs z = 0 ∧ zl z 10 = L ∧ (∀ a, a < 16 → zh z a = LHt.getD a 0 ∧ (a ≠ 10 → zl z a = LLt.getD a 0) ∧ ∀ k, k < 128 → zr z a k = (LRt.getD a []).getD k 0) ∧ dirV v ∧ (v 3 1 = 0 ∧ v 4 1 = 0 ∧ v 5 1 = 0) ∧ v 6 = strA ∧ v 7 = strB ∧ v 8 = strS ∧ ∀ k, rg (v 10 k)
section SU
variable {L : Nat} {z z0 : xZ} {v v0 : xV}
theorem layA_0 (h0 : St0 L z0 v0) (hf : Fr 16 z0 v0 z v) (h1 : ∀ i c, i < 192 → gwT[i]? = some c → Cel z v (16 + i) c) (h2 : Seg z v 208 mdT) (hn : zn z = 250) : Lay z := by
  refine ⟨by omega, fun a ha => ?_⟩
  by_cases c1 : a < 16
  · obtain ⟨q1, q2, q3, -⟩ := hf a c1
    obtain ⟨r1, r2, r3⟩ := h0.2.2.2.1 a c1
    exact ⟨q1.trans r1, fun c => q2.trans (r2 c), fun k hk => by rw [q3]; exact r3 k hk⟩
  · by_cases c2 : a < 208
    · have t := allB_spec chk_1 (a - 16) (by omega)
      have q := chk_ok (z := z) (v := v) t (fun c hc => h1 (a - 16) c (by omega) hc)
      rw [show 16 + (a - 16) = a by omega] at q
      exact ⟨q.1, fun _ => q.2.1, q.2.2⟩
    · have t := allB_spec chk_2 (a - 208) (by omega)
      have q := chk_ok (z := z) (v := v) t (fun c hc => Seg_at mdT 208 (a - 208) c h2 hc)
      rw [show 208 + (a - 208) = a by omega] at q
      exact ⟨q.1, fun _ => q.2.1, q.2.2⟩
theorem inv_0 (h0 : St0 L z0 v0) (hf : Fr 16 z0 v0 z v) (h1 : ∀ i c, i < 192 → gwT[i]? = some c → Cel z v (16 + i) c) (h2 : Seg z v 208 mdT) : Inv v := by
  have Z : ∀ a k, 16 ≤ a → okz a = true → v a k = 0 := fun a k ha ho => by
    unfold okz at ho
    by_cases c : a < 208
    · rw [if_pos c] at ho
      cases e : gwT[a - 16]? with
      | none => rw [e] at ho; exact absurd ho (by decide)
      | some d =>
        rw [e] at ho
        have q := h1 (a - 16) d (by omega) e
        rw [show 16 + (a - 16) = a by omega] at q
        exact (q.2.2.2 k).trans (ilk_0 _ k ho)
    · rw [if_neg c] at ho
      cases e : mdT[a - 208]? with
      | none => rw [e] at ho; exact absurd ho (by decide)
      | some d =>
        rw [e] at ho
        have q := Seg_at mdT 208 (a - 208) d h2 e
        rw [show 208 + (a - 208) = a by omega] at q
        exact (q.2.2.2 k).trans (ilk_0 _ k ho)
  have F : ∀ a, a < 16 → v a = v0 a := fun a ha => (hf a ha).2.2.2
  have v16 : ∀ k, v 16 k = ilk [(12, -1)] k := (h1 0 gwO (by decide) rfl).2.2.2
  have v208 : ∀ k, v 208 k = ilk [(31, -1)] k := h2.1.2.2.2
  have v215 : ∀ k, v 215 k = ilk wrd k := (Seg_at mdT 208 7 _ h2 rfl).2.2.2
  have v51 : ∀ k, v 51 k = ilk [(2, 99), (1, 1)] k := (h1 35 _ (by decide) rfl).2.2.2
  have v53 : ∀ k, v 53 k = ilk [(2, 99), (1, 0)] k := (h1 37 _ (by decide) rfl).2.2.2
  have v55 : ∀ k, v 55 k = ilk [(2, 60), (1, 1)] k := (h1 39 _ (by decide) rfl).2.2.2
  have v57 : ∀ k, v 57 k = ilk [(2, 1023), (1, 0)] k := (h1 41 _ (by decide) rfl).2.2.2
  have v123 : ∀ k, v 123 k = ilk [(0, 1)] k := (h1 107 _ (by decide) rfl).2.2.2
  have vw : ∀ j, j < 8 → ∀ k, v (61 + j) k = ilk [(3, 3), (2, 2), (1, 1), (0, 0)] k := fun j hj => by
    have c' : j = 0 ∨ j = 1 ∨ j = 2 ∨ j = 3 ∨ j = 4 ∨ j = 5 ∨ j = 6 ∨ j = 7 := by omega
    rcases c' with rfl | rfl | rfl | rfl | rfl | rfl | rfl | rfl
    · exact (h1 45 _ (by decide) rfl).2.2.2
    · exact (h1 46 _ (by decide) rfl).2.2.2
    · exact (h1 47 _ (by decide) rfl).2.2.2
    · exact (h1 48 _ (by decide) rfl).2.2.2
    · exact (h1 49 _ (by decide) rfl).2.2.2
    · exact (h1 50 _ (by decide) rfl).2.2.2
    · exact (h1 51 _ (by decide) rfl).2.2.2
    · exact (h1 52 _ (by decide) rfl).2.2.2
  have z209 : ∀ k, v 209 k = 0 := fun k => Z 209 k (by decide) rfl
  obtain ⟨-, -, -, -, i1, i2, i3, i4, i5, i6⟩ := h0
  refine ⟨⟨0, by decide, v208 6, ⟨Z 18 0 (by decide) rfl, Z 18 9 (by decide) rfl, (Z 18 10 (by decide) rfl).trans (z209 _).symm, (Z 18 11 (by decide) rfl).trans (z209 _).symm, (Z 18 12 (by decide) rfl).trans (z209 _).symm, (Z 18 13 (by decide) rfl).trans (z209 _).symm, (Z 18 14 (by decide) rfl).trans (z209 _).symm, fun c _ => (Z 19 c (by decide) rfl).trans (z209 _).symm, fun c _ => (Z 20 c (by decide) rfl).trans (z209 _).symm, fun c _ => (Z 21 c (by decide) rfl).trans (z209 _).symm, fun i _ => (Z 22 i (by decide) rfl).trans (Z 212 i (by decide) rfl).symm, fun i _ => by rw [z209, z209]; exact Z 23 i (by decide) rfl, fun i _ => (Z 24 i (by decide) rfl).trans (z209 _).symm, fun i _ => (Z 25 i (by decide) rfl).trans (z209 _).symm, fun i _ => (Z 26 i (by decide) rfl).trans (z209 _).symm⟩, ⟨fun i _ => by rw [z209, z209]; decide, by rw [z209]; decide, fun c _ => by rw [z209, z209]; decide⟩⟩, ⟨0, 0, ⟨by decide, by decide, Z 216 0 (by decide) rfl, fun i hi => absurd hi (by omega)⟩, Z 27 5 (by decide) rfl, Z 27 6 (by decide) rfl, fun i hi => absurd hi (by omega), fun i hi => absurd hi (by omega)⟩, ⟨0, v208 32, ⟨by decide, by rw [v208 6]; decide, fun i hi => absurd hi (by omega)⟩, Z 35 6 (by decide) rfl, fun i hi => absurd hi (by omega)⟩, ⟨0, by decide, v208 37, Z 42 6 (by decide) rfl, fun i hi => absurd hi (by omega)⟩, ?_, ?_, ⟨0, by decide, v51 3, v208 46, fun i hi => absurd hi (by omega)⟩, ⟨0, by decide, v53 3, v208 54, fun i hi => absurd hi (by omega)⟩, ⟨0, by decide, v55 3, v208 56, fun i hi => absurd hi (by omega)⟩, ⟨0, by decide, v57 3, v208 61, fun i hi => absurd hi (by omega)⟩, ⟨0, by decide, Z 49 6 (by decide) rfl, v208 59, Z 49 7 (by decide) rfl⟩, ⟨fun k _ => ?_, Z 234 0 (by decide) rfl⟩, ⟨fun _ => 123, fun j hj => ⟨?_, ?_, fun k hk => ?_⟩⟩, ⟨0, 0, ⟨by decide, by decide, v16 6, v16 5, fun i hi => ?_, fun j hj => absurd hj (by omega)⟩, v208 3⟩, ⟨0, by decide, v16 8, v208 10, fun k hk => absurd hk (by omega)⟩, ⟨?_, ?_⟩, ⟨v208 5, ?_, ?_, ?_, ?_, ?_, ?_, v123 0, ⟨v51 1, v51 2, v53 1, v53 2, v55 1, v55 2, v57 1, v57 2⟩, ?_⟩, ⟨?_, Z 71 0 (by decide) rfl, .inl (v16 2)⟩⟩
  · show v 17 5 = v 208 34
    rw [v208 34, Z 17 5 (by decide) rfl]
    rfl
  · funext k
    rw [Z 69 k (by decide) rfl, Z 213 k (by decide) rfl]
  · show v 50 k = v 234 k ∧ 0 ≤ v 234 k ∧ v 234 k ≤ 99
    rw [Z 50 k (by decide) rfl, Z 234 k (by decide) rfl]
    decide
  · show wok 123
    exact ⟨by decide, by decide +kernel⟩
  · rw [Z 237 j (by decide) rfl]
    rfl
  · show v (61 + j) k = ((rk 123 k : Nat) : Int)
    rw [vw j hj k]
    have c' : k = 0 ∨ k = 1 ∨ k = 2 ∨ k = 3 := by omega
    rcases c' with rfl | rfl | rfl | rfl <;> decide
  · have c' : i = 0 ∨ i = 1 ∨ i = 2 ∨ i = 3 ∨ i = 4 ∨ i = 5 := by omega
    rcases c' with rfl | rfl | rfl | rfl | rfl | rfl
    · exact Z 154 0 (by decide) rfl
    · exact Z 163 0 (by decide) rfl
    · exact Z 172 0 (by decide) rfl
    · exact Z 181 0 (by decide) rfl
    · exact Z 190 0 (by decide) rfl
    · exact Z 199 0 (by decide) rfl
  · rw [v16, v208]; rfl
  · rw [v16, v208]; rfl
  · unfold dirV
    rw [F 1 (by decide), F 2 (by decide)]
    exact i1
  · rw [F 3 (by decide), F 4 (by decide), F 5 (by decide)]
    exact i2
  · rw [F 6 (by decide)]; exact i3
  · rw [F 7 (by decide)]; exact i4
  · rw [F 8 (by decide)]; exact i5
  · funext k
    rw [v215 k]
    exact wrd_ok k
  · rw [F 10 (by decide)]; exact i6
  · rw [v16, v208]; rfl
end SU
theorem law_start {L : Nat} {z : xZ} {v : xV} {Q : xZ → xV → xv → Prop} (h0 : St0 L z v) (hK : ∀ z' v', Lay z' → Inv v' → zl z' 10 = L → zn z' = 250 → zs z' = 28794 → xGo (EvM TB 100) (TB 0) Q 18 [.inr (.inl 10), .inr (.inl 16), .inr (.inl 208), .inl 0] [] z' v') : EvM TB (100 + 1) 0 z v [.inr (.inl 10)] Q := by
  have e : z.1 = 16 := h0.1
  have hc : Cel (nwZ z 0 0 13) (nwV v 16) 16 (0, 0, [], []) := ⟨if_pos e.symm, if_pos e.symm, fun k => if_pos e.symm, fun k => if_pos rfl⟩
  rw [e_ev]
  simp -implicitDefEqProofs only [lay_a, lay_n]
  rw [g_0_0, x_new, e]
  simp -implicitDefEqProofs only [x_dupA, Nat.reduceDiv, Nat.reduceMod]
  refine xb_c1 (kind := 0) (by decide) (by decide) (by decide) hc.1 rfl ?_
  refine k_gw (d := 96) (by show z.1 + 1 = 17; omega) hc (fun z2 v2 c1 c2 c3 c4 => ?_)
  have e2 : z2.1 = 208 := c1
  have hc2 : Cel (nwZ z2 10 0 69) (nwV v2 208) 208 (10, 0, [], []) := ⟨if_pos e2.symm, if_pos e2.symm, fun k => if_pos e2.symm, fun k => if_pos rfl⟩
  simp -implicitDefEqProofs only [x_astore, sto_a, sto_n0, sto_0]
  rw [x_new, e2]
  simp -implicitDefEqProofs only [x_dupA, Nat.reduceDiv, Nat.reduceMod]
  refine xb_c1 (kind := 10) (by decide) (by decide) (by decide) hc2.1 rfl ?_
  refine k_md (d := 99) (by show z2.1 + 1 = 209; omega) hc2 (fun z3 v3 f1 f2 f3 f4 => ?_)
  simp -implicitDefEqProofs only [x_astore, x_iconst, x_istore, sto_a, sto_n0, sto_0, x_nil]
  have off : ∀ a, a < 208 → zh z3 a = zh z2 a ∧ zl z3 a = zl z2 a ∧ zr z3 a = zr z2 a ∧ v3 a = v2 a := fun a ha => by
    obtain ⟨q1, q2, q3, q4⟩ := f3 a ha
    obtain ⟨r1, r2, r3, r4⟩ := nw_off (z := z2) (v := v2) (t := 10) (l := 0) (sl := 69) (a := a) (by unfold zn; omega)
    rw [show zn z2 = 208 from e2] at r4
    exact ⟨q1.trans r1, q2.trans r2, q3.trans r3, q4.trans r4⟩
  have hF : Fr 16 z v z3 v3 := fun a ha => by
    obtain ⟨q1, q2, q3, q4⟩ := off a (by omega)
    obtain ⟨s1, s2, s3, s4⟩ := c3 a ha
    obtain ⟨r1, r2, r3, r4⟩ := nw_off (z := z) (v := v) (t := 0) (l := 0) (sl := 13) (a := a) (by unfold zn; omega)
    rw [show zn z = 16 from e] at r4
    exact ⟨q1.trans (s1.trans r1), q2.trans (s2.trans r2), q3.trans (s3.trans r3), q4.trans (s4.trans r4)⟩
  have h1 : ∀ i c, i < 192 → gwT[i]? = some c → Cel z3 v3 (16 + i) c := fun i c hi hg => Cel_fr (off (16 + i) (by omega)) (c4 i c hi hg)
  refine hK z3 v3 (layA_0 h0 hF h1 f4 f1) (inv_0 h0 hF h1 f4) ((hF 10 (by decide)).2.1.trans h0.2.2.1) f1 ?_
  rw [f2]
  show z2.2.1 + 69 + 21641 = 28794
  have q : z2.2.1 = z.2.1 + 13 + 7071 := c2
  have q0 : z.2.1 = 0 := h0.2.1
  omega
