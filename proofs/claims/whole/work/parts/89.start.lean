/-! THE CLAIM OUT OF ONE WALK OF THE LAW'S BODY. Your part is whole_start (and what it stands on); all else here is the same for every law, but numbers. -/
def R_law : String := "GriefWoodLaw"
def lw_P (b : Addr) (xs : List Int32) (args : Array Value) (s : State) : Prop := args = #[.ref b] ∧ s.IntsAt b xs ∧ xs.length ≤ 3072 ∧ (Jvm.Cond.and given_1 narrow_1).before args s = true
def lw_Q (_ : Array Value) (s : State) (o : Outcome) (t : State) : Prop := o = .returned (some (.int 1)) ∧ Framed s o t [] 600000 7302250
def lw_Z (below : List Frame) (a : Array Value) (s : State) : State → Prop := fun t => ∃ o, t.status = .running ∧ Ended t below o ∧ lw_Q a s o t
/-- the law's own end, with 1 on the stack, nothing written that was there before, its room as the claim has it -/
theorem lw_ret {p : Program} {l : Launch} {e : Env} {s : State} {m : MethodId} {below : List Frame} {meth : Method} {c : Code} {b : Nat} (hx : p.tables.exec = Jvm.exec) (hb : c.code = code) (hr : meth.sig.returnType = ret) (hlocks : meth.locks = false) {pc : Nat} {H : Heap} {ls : Array Slot} (hdg : decode code pc = .ok (.ireturn, 1)) : W p l e room_1 s m #[Value.ref b] below meth c H [] 600000 7302250 (lw_Z below #[Value.ref b] s) (F0 m pc ls [.int 1]) := by
  intro T hT X
  obtain ⟨fs, hret, hrun, hended, hW, hframe⟩ := X.leave (v := some (.int 1)) (hlocks := hlocks) (fun h => by rw [hr] at h; cases h)
  have hmeth' : T.vm.method? m = some meth := X.method'
  refine ⟨T.setFrames fs, ?_, .returned (some (.int 1)), hrun, hended, rfl, ⟨_, rfl⟩, hW, hframe⟩
  jvm_step X.here [X.here.top, hx, hb, hdg, hmeth', hr, ret, narrow_b1]
  (try refine ⟨rfl, ?_⟩); (try refine ⟨rfl, ?_⟩)
  first | (intro acts; rw [hret _ acts rfl rfl rfl]) | rw [hret _ _ rfl rfl rfl]
  exact Steps.refl _
/-- what holds at the law's entry: the machine, the code, the tables' words (any of lw_tbl by 'hts w (by decide +kernel)'), the script of L ints xs at the cell b, what the Statement gives of the start (any of its parts by flat_of_before) -/
def lw_At (p : Program) (s : State) (m : MethodId) (meth : Method) (c : Code) (b L : Nat) (xs : Nat → Int32) : Prop :=
  p.tables.exec = Jvm.exec ∧ c.code = code ∧ meth.sig.returnType = ret ∧ c.maxLocals = 4 ∧ s.vm.findClass R_law = some m.cls ∧ (∀ w ∈ lw_tbl, w.before #[Value.ref b] s = true) ∧ va_X b L xs s s.heap ∧ b < s.heap.size ∧ meth.locks = false ∧ (Jvm.Cond.and given_1 narrow_1).before #[Value.ref b] s = true
/-! ===== the start: what the small machine's first cells are ===== -/
def tmS (i : Nat) : Term := if i = 0 then .string "GriefWood" 128 else if i = 1 then .string "GriefWood" 139 else .string "GriefWood$Tokens" 57
def lenS : List Nat := [85, 67, 10]
def bytI : List (List Int) := [[108, 111, 115, 115, 32, 115, 111, 108, 97, 99, 101, 32, 111, 97, 107, 32, 116, 114, 117, 102, 102, 108, 101, 32, 100, 117, 103, 32, 120, 32, 121, 32, 102, 111, 117, 110, 100, 32, 98, 97, 115, 107, 101, 116, 32, 109, 111, 114, 110, 105, 110, 103, 32, 100, 114, 97, 119, 115, 32, 115, 116, 111, 112, 115, 32, 112, 97, 121, 115, 32, 119, 104, 101, 110, 32, 111, 114, 32, 97, 110, 100, 32, 110, 111, 116], [111, 110, 32, 115, 101, 101, 107, 101, 114, 32, 108, 101, 97, 100, 32, 99, 111, 110, 115, 111, 108, 101, 32, 109, 111, 117, 114, 110, 32, 115, 116, 97, 110, 100, 32, 99, 101, 108, 108, 32, 111, 97, 107, 32, 98, 97, 114, 101, 32, 116, 114, 117, 102, 102, 108, 101, 32, 116, 97, 98, 108, 101, 32, 112, 97, 121, 115], [59, 43, 45, 42, 47, 40, 41, 60, 61, 62]]
def bytS : List (List Int32) := [[108, 111, 115, 115, 32, 115, 111, 108, 97, 99, 101, 32, 111, 97, 107, 32, 116, 114, 117, 102, 102, 108, 101, 32, 100, 117, 103, 32, 120, 32, 121, 32, 102, 111, 117, 110, 100, 32, 98, 97, 115, 107, 101, 116, 32, 109, 111, 114, 110, 105, 110, 103, 32, 100, 114, 97, 119, 115, 32, 115, 116, 111, 112, 115, 32, 112, 97, 121, 115, 32, 119, 104, 101, 110, 32, 111, 114, 32, 97, 110, 100, 32, 110, 111, 116], [111, 110, 32, 115, 101, 101, 107, 101, 114, 32, 108, 101, 97, 100, 32, 99, 111, 110, 115, 111, 108, 101, 32, 109, 111, 117, 114, 110, 32, 115, 116, 97, 110, 100, 32, 99, 101, 108, 108, 32, 111, 97, 107, 32, 98, 97, 114, 101, 32, 116, 114, 117, 102, 102, 108, 101, 32, 116, 97, 98, 108, 101, 32, 112, 97, 121, 115], [59, 43, 45, 42, 47, 40, 41, 60, 61, 62]]
def zh0 (a : Nat) : Nat := ([119, 110, 110, 50, 50, 50, 111, 111, 111, 119, 110] : List Nat).getD a 119
def zl0 (L a : Nat) : Nat := ([0, 4, 4, 0, 0, 0, 85, 67, 10, 0, L] : List Nat).getD a 0
def zr0 (a k : Nat) : Nat := if k = 0 then ([0, 0, 0, 6, 7, 8] : List Nat).getD a 0 else 0
def z00 (L : Nat) : xZ := (16, 0, zh0, zl0 L, zr0, fun _ _ => 0)
def rgtI : List Int := [0, 1, 0, -1]
def dwnI : List Int := [-1, 0, 1, 0]
def v00 (L : Nat) (xs : Nat → Int32) : xV := fun a k => if a = 10 then (if k < L then (xs k).toInt else 0) else if a = 1 then rgtI.getD k 0 else if a = 2 then dwnI.getD k 0 else if 6 ≤ a ∧ a ≤ 8 then (bytI.getD (a - 6) []).getD k 0 else 0
theorem rg_lists : (∀ x ∈ rgtI, rg x) ∧ (∀ x ∈ dwnI, rg x) ∧ ∀ l ∈ bytI, ∀ x ∈ l, rg x := by
  unfold rg
  decide +kernel
theorem rg_getD {l : List Int} (h : ∀ x ∈ l, rg x) (k : Nat) : rg (l.getD k 0) := by
  rw [List.getD_eq_getElem?_getD]
  cases e : l[k]? with
  | none => exact rg0
  | some x => exact h x (List.mem_of_getElem? e)
theorem rg_v00 (L : Nat) (xs : Nat → Int32) (a k : Nat) : rg (v00 L xs a k) := by
  unfold v00
  split
  · split
    · exact rg_toInt _
    · exact rg0
  · split
    · exact rg_getD rg_lists.1 k
    · split
      · exact rg_getD rg_lists.2.1 k
      · split
        · refine rg_getD (fun x hx => ?_) k
          rw [List.getD_eq_getElem?_getD] at hx
          cases e : bytI[a - 6]? with
          | none => rw [e] at hx; cases hx
          | some l => rw [e] at hx; exact rg_lists.2.2 l (List.mem_of_getElem? e) x hx
        · exact rg0
theorem byt_eq : ∀ i, i < 3 → ∀ k, k < lenS.getD i 0 → Int32.ofInt ((bytI.getD i []).getD k 0) = (bytS.getD i []).getD k 0 := by decide +kernel
theorem lSr : Cond.laysStatic "GriefWood$Scene" "RIGHTWARDS" "[I" ∈ lw_tbl := wd_mem (p := 2229) (by decide +kernel)
theorem lSd : Cond.laysStatic "GriefWood$Scene" "DOWNWARDS" "[I" ∈ lw_tbl := wd_mem (p := 2231) (by decide +kernel)
theorem lSc : Cond.laysStatic "java/lang/String" "COMPACT_STRINGS" "Z" ∈ lw_tbl := wd_mem (p := 3093) (by decide +kernel)
theorem lSf : Cond.laysStatic "jdk/internal/util/Preconditions" "SIOOBE_FORMATTER" "Ljava/util/function/BiFunction;" ∈ lw_tbl := wd_mem (p := 3109) (by decide +kernel)
theorem iScC : Cond.initialized "GriefWood$Scene" ∈ lw_tbl := wd_mem (p := 1003) (by decide +kernel)
theorem iSt : Cond.initialized "java/lang/String" ∈ lw_tbl := wd_mem (p := 1014) (by decide +kernel)
theorem iPr : Cond.initialized "jdk/internal/util/Preconditions" ∈ lw_tbl := wd_mem (p := 1016) (by decide +kernel)
theorem sR0 : Cond.stringRef "GriefWood" 128 "loss solace oak truffle dug x y found basket morning draws stops pays when or and not" ∈ lw_tbl := wd_mem (p := 3067) (by decide +kernel)
theorem sR1 : Cond.stringRef "GriefWood" 139 "on seeker lead console mourn stand cell oak bare truffle table pays" ∈ lw_tbl := wd_mem (p := 4039) (by decide +kernel)
theorem sR2 : Cond.stringRef "GriefWood$Tokens" 57 ";+-*/()<=>" ∈ lw_tbl := wd_mem (p := 3135) (by decide +kernel)
theorem aOS : Cond.arrayOver (.object "GriefWood$Scene") ∈ lw_tbl := wd_mem (p := 2073) (by decide +kernel)
theorem aOI : Cond.arrayOver (.array .int) ∈ lw_tbl := wd_mem (p := 2005) (by decide +kernel)
def strP : List Nat := [27, 131, 116]
set_option maxRecDepth 100000 in
theorem str_el0 : ∀ j, j < 85 → (flatC (Jvm.Cond.and given_1 narrow_1))[strP.getD 0 0 + j]? = some (Cond.eq (.elem (.field (tmS 0) "java/lang/String" "value" "[B") (.int (Int32.ofNat j))) (.int ((bytS.getD 0 []).getD j 0))) := by decide +kernel
set_option maxRecDepth 100000 in
theorem str_el1 : ∀ j, j < 67 → (flatC (Jvm.Cond.and given_1 narrow_1))[strP.getD 1 0 + j]? = some (Cond.eq (.elem (.field (tmS 1) "java/lang/String" "value" "[B") (.int (Int32.ofNat j))) (.int ((bytS.getD 1 []).getD j 0))) := by decide +kernel
set_option maxRecDepth 100000 in
theorem str_el2 : ∀ j, j < 10 → (flatC (Jvm.Cond.and given_1 narrow_1))[strP.getD 2 0 + j]? = some (Cond.eq (.elem (.field (tmS 2) "java/lang/String" "value" "[B") (.int (Int32.ofNat j))) (.int ((bytS.getD 2 []).getD j 0))) := by decide +kernel
theorem str_el : ∀ i, i < 3 → ∀ j, j < lenS.getD i 0 → Cond.eq (.elem (.field (tmS i) "java/lang/String" "value" "[B") (.int (Int32.ofNat j))) (.int ((bytS.getD i []).getD j 0)) ∈ flatC (Jvm.Cond.and given_1 narrow_1) := by
  intro i hi j hj
  match i, hi, hj with
  | 0, _, hj => exact List.mem_of_getElem? (str_el0 j hj)
  | 1, _, hj => exact List.mem_of_getElem? (str_el1 j hj)
  | 2, _, hj => exact List.mem_of_getElem? (str_el2 j hj)
  | n + 3, h, _ => exact absurd h (by omega)
section ST
variable {p : Program} {s : State} {m : MethodId} {meth : Method} {c : Code} {b L : Nat} {xs : Nat → Int32}
theorem arr_prim {A : Array Value} {ty : FieldType} (h : (Cond.arrayClass ty).before A s = true) : ∃ cA, ArrOfT s cA ty ∧ s.vm.findClass ("[" ++ ty.toString) = some cA := by
  obtain ⟨cA, kA, comp, h1, h2, h3⟩ := Cond.arrayClass_spec h
  exact ⟨cA, fun n z => ⟨fun k h => (by cases h), kA, h2, comp, h3⟩, h1⟩
/-- at the law's entry there is a picture of the start -/
theorem tab_start (C0 : lw_At p s m meth c b L xs) : ∃ ε : xE, eB ε = s.heap.size ∧ eH ε = s.heap ∧ eZ ε = z00 L ∧ eV ε = v00 L xs ∧ rf ε 10 = .ref b ∧ Tab ε s := by
  obtain ⟨hx, hb, hr, hml, hown, hts, hX, hbl, hlocks, hgv⟩ := C0
  have hs := flat_of_before _ hgv
  have hA : ∀ a : Nat, a < s.heap.size → ¬ (fun q => s.heap.size ≤ q) a := fun a h => Nat.not_le.mpr h
  -- classes
  have hcl : ∀ t : Nat, ∃ q : ClassId × (Nat → Nat), t < 11 → u_Kn s (on t) (fT t) (cN t) q.1 q.2 := by
    intro t
    by_cases ht : t < 11
    · obtain ⟨cC, iS, h⟩ := u_known hts (lay_t t ht) (hts _ (wd_mem (tIp_ok t ht).1))
      exact ⟨(cC, iS), fun _ => h⟩
    · exact ⟨(0, fun _ => 0), fun h => absurd h ht⟩
  obtain ⟨dq, hdq⟩ := Classical.axiomOfChoice hcl
  obtain ⟨cI, cI1, cI2⟩ := arr_prim (hts _ wI)
  obtain ⟨cC, cC1, cC2⟩ := arr_prim (hts _ wC)
  obtain ⟨cL, cL1, cL2⟩ := arr_prim (hts _ wL)
  have hao : va_AO "GriefWood$Scene" s := va_AO.of (hts _ aOS)
  have hai : (Cond.arrayOver (.array .int)).before #[] s = true := ao_at (hts _ aOI)
  obtain ⟨compS, cS, kS, s1, s2, s3, s4, s5⟩ := Cond.arrayOver_spec (hts _ aOS)
  obtain ⟨compM, cM, kM, m1, m2, m3, m4⟩ := Cond.arrayOver_specA (hts _ aOI)
  -- statics
  obtain ⟨tR, tR1, tR2⟩ := va_Tof (s := s) (args := #[Value.ref b]) (tm := .static "GriefWood$Scene" "RIGHTWARDS" "[I") (ty := .int) (N := 4) (f := fun k => .int (Int32.ofInt (rgtI.getD k 0))) (A := fun q => s.heap.size ≤ q) (by decide) (hs _ (by decide +kernel)) (va_eqt (z := 4) (hs _ (by decide +kernel))) (fun j hj => by
    match j, hj with
    | 0, _ => exact va_eqt (z := 0) (hs _ (by decide +kernel))
    | 1, _ => exact va_eqt (z := 1) (hs _ (by decide +kernel))
    | 2, _ => exact va_eqt (z := 0) (hs _ (by decide +kernel))
    | 3, _ => exact va_eqt (z := -1) (hs _ (by decide +kernel))
    | n + 4, h => exact absurd h (by omega)) hA
  obtain ⟨tD, tD1, tD2⟩ := va_Tof (s := s) (args := #[Value.ref b]) (tm := .static "GriefWood$Scene" "DOWNWARDS" "[I") (ty := .int) (N := 4) (f := fun k => .int (Int32.ofInt (dwnI.getD k 0))) (A := fun q => s.heap.size ≤ q) (by decide) (hs _ (by decide +kernel)) (va_eqt (z := 4) (hs _ (by decide +kernel))) (fun j hj => by
    match j, hj with
    | 0, _ => exact va_eqt (z := -1) (hs _ (by decide +kernel))
    | 1, _ => exact va_eqt (z := 0) (hs _ (by decide +kernel))
    | 2, _ => exact va_eqt (z := 1) (hs _ (by decide +kernel))
    | 3, _ => exact va_eqt (z := 0) (hs _ (by decide +kernel))
    | n + 4, h => exact absurd h (by omega)) hA
  have zR := va_Zref (hts _ lSr) (hts _ iScC) tR1 hA
  have zD := va_Zref (hts _ lSd) (hts _ iScC) tD1 hA
  have zC := va_Zof (hts _ lSc) (hts _ iSt) (va_eqi (z := 1) (hs _ (by decide +kernel))) hA
  have zF0 := va_Zqof (hts _ lSf) (hts _ iPr) (hs _ (by decide +kernel)) hA
  obtain ⟨fm, zF⟩ : ∃ fm : Option Nat, va_Z "jdk/internal/util/Preconditions" "SIOOBE_FORMATTER" "Ljava/util/function/BiFunction;" (va_rf fm) (fun q => s.heap.size ≤ q) s s.heap := by
    rcases zF0 with h | ⟨t, h⟩
    · exact ⟨none, h⟩
    · exact ⟨some t, h⟩
  -- strings
  obtain ⟨adK, adV, hSt, hev⟩ := vk_Sof (s := s) (args := #[Value.ref b]) (N := 3) (tm := tmS) (len := lenS) (byt := bytS) (A := fun q => s.heap.size ≤ q) (by decide) (fun i hi => by
      match i, hi with
      | 0, _ => exact hs _ (by decide +kernel)
      | 1, _ => exact hs _ (by decide +kernel)
      | 2, _ => exact hs _ (by decide +kernel)
      | n + 3, h => exact absurd h (by omega)) (fun i hi => by
      match i, hi with
      | 0, _ => exact hs _ (by decide +kernel)
      | 1, _ => exact hs _ (by decide +kernel)
      | 2, _ => exact hs _ (by decide +kernel)
      | n + 3, h => exact absurd h (by omega)) (fun i hi => by
      match i, hi with
      | 0, _ => exact hs _ (by decide +kernel)
      | 1, _ => exact hs _ (by decide +kernel)
      | 2, _ => exact hs _ (by decide +kernel)
      | n + 3, h => exact absurd h (by omega)) (fun i hi => by
      match i, hi with
      | 0, _ => exact hs _ (by decide +kernel)
      | 1, _ => exact hs _ (by decide +kernel)
      | 2, _ => exact hs _ (by decide +kernel)
      | n + 3, h => exact absurd h (by omega)) (fun i hi j hj => hs _ (str_el i hi j hj)) (fun i j hi hj hij => by
      match i, j, hi, hj, hij with
      | 0, 1, _, _, _ => exact Or.inl (hs _ (by decide +kernel))
      | 0, 2, _, _, _ => exact Or.inl (hs _ (by decide +kernel))
      | 1, 0, _, _, _ => exact Or.inr (hs _ (by decide +kernel))
      | 1, 2, _, _, _ => exact Or.inr (hs _ (by decide +kernel))
      | 2, 0, _, _, _ => exact Or.inr (hs _ (by decide +kernel))
      | 2, 1, _, _, _ => exact Or.inl (hs _ (by decide +kernel))
      | 0, 0, _, _, h => exact absurd rfl h
      | 1, 1, _, _, h => exact absurd rfl h
      | 2, 2, _, _, h => exact absurd rfl h
      | n + 3, _, h, _, _ => exact absurd h (by omega)
      | _, n + 3, _, h, _ => exact absurd h (by omega)) hA
  let rS : Nat → Option Nat := fun a => ([none, some tR, some tD, some (adK 0), some (adK 1), some (adK 2), some (adV 0), some (adV 1), some (adV 2), fm, some b] : List (Option Nat)).getD a none
  let cA : Nat → ClassId := fun t => if t = 100 then cI else if t = 101 then cC else if t = 102 then cL else if t = 104 then cS else cM
  refine ⟨(s.heap.size, s.heap, (fun t => (dq t).1, fun t => (dq t).2), cA, rS, z00 L, v00 L xs), rfl, rfl, rfl, rfl, rfl, ⟨fun a ha => ?_, rfl⟩, ⟨fun k q hq => ?_, fun k q hq => ?_⟩, fun q hq => ?_, fun q hq => ?_, fun q hq => ?_, fun a ha => ?_, hao, hai⟩
  · show zh0 a = 50 ∨ zh0 a = 110 ∨ zh0 a = 111 ∨ zh0 a = 119
    revert a ha
    decide
  · have hk : k < 11 := (List.getElem?_eq_some_iff.mp hq).1
    rw [cls_t k hk] at hq
    cases hq
    exact hdq k hk
  · match k, hq with
    | 0, hq => cases hq; exact ⟨cI1, cI2⟩
    | 1, hq => cases hq; exact ⟨cC1, cC2⟩
    | 2, hq => cases hq; exact ⟨cL1, cL2⟩
    | 3, hq => cases hq; exact ⟨fun n z => ⟨fun k h => (by cases h), kS, s3, compS, s4⟩, kS, compS, s3, s4, s1, s5⟩
    | 4, hq => cases hq; exact ⟨fun n z => ⟨fun k h => (by cases h), kM, m2, compM, m3⟩, m4⟩
    | n + 5, hq => simp [tyL] at hq
  · obtain ⟨i, hi⟩ := List.getElem?_of_mem hq
    have hl : i < 15 := (List.getElem?_eq_some_iff.mp hi).1
    have h2 := nwQ_ok i hl
    rw [hi] at h2
    exact va_Nw.of rfl (hts _ (wd_mem h2.symm))
  · simp only [tS, List.mem_cons, List.not_mem_nil, or_false] at hq
    rcases hq with rfl | rfl | rfl | rfl
    · exact zR
    · exact zD
    · exact zC
    · exact zF
  · simp only [tT, List.mem_cons, List.not_mem_nil, or_false] at hq
    rcases hq with rfl | rfl | rfl
    · exact ⟨adK 0, rfl, vk_R.of (hts _ sR0) (hev 0 (by decide))⟩
    · exact ⟨adK 1, rfl, vk_R.of (hts _ sR1) (hev 1 (by decide))⟩
    · exact ⟨adK 2, rfl, vk_R.of (hts _ sR2) (hev 2 (by decide))⟩
  · have key : ∀ i, i < 3 → va_T .byte (adV i) (lenS.getD i 0) (fun k => .int (Int32.ofInt ((bytI.getD i []).getD k 0))) (fun q => s.heap.size ≤ q) s s.heap := fun i hi => by
      obtain ⟨cell, h1, h2, h3, h4, h5, h6, h7⟩ := (hSt.1 i hi).2.2.2
      exact ⟨cell, h1, h2, h3, h4, h5, fun j hj => by rw [h6 j hj]; dsimp only; rw [byt_eq i hi j hj], h7⟩
    match a, ha with
    | 0, _ => exact ⟨fun h => (by cases h), fun h => (by cases h), fun h => (by cases h)⟩
    | 1, _ => exact ⟨fun _ => ⟨tR, rfl, tR2⟩, fun h => (by cases h), fun h => (by cases h)⟩
    | 2, _ => exact ⟨fun _ => ⟨tD, rfl, tD2⟩, fun h => (by cases h), fun h => (by cases h)⟩
    | 3, _ => exact ⟨fun h => (by cases h), fun h => (by cases h), fun _ => ⟨adK 0, rfl, (hSt.1 0 (by decide)).1, (hSt.1 0 (by decide)).2.1, (hSt.1 0 (by decide)).2.2.1⟩⟩
    | 4, _ => exact ⟨fun h => (by cases h), fun h => (by cases h), fun _ => ⟨adK 1, rfl, (hSt.1 1 (by decide)).1, (hSt.1 1 (by decide)).2.1, (hSt.1 1 (by decide)).2.2.1⟩⟩
    | 5, _ => exact ⟨fun h => (by cases h), fun h => (by cases h), fun _ => ⟨adK 2, rfl, (hSt.1 2 (by decide)).1, (hSt.1 2 (by decide)).2.1, (hSt.1 2 (by decide)).2.2.1⟩⟩
    | 6, _ => exact ⟨fun h => (by cases h), fun _ => ⟨adV 0, rfl, key 0 (by decide)⟩, fun h => (by cases h)⟩
    | 7, _ => exact ⟨fun h => (by cases h), fun _ => ⟨adV 1, rfl, key 1 (by decide)⟩, fun h => (by cases h)⟩
    | 8, _ => exact ⟨fun h => (by cases h), fun _ => ⟨adV 2, rfl, key 2 (by decide)⟩, fun h => (by cases h)⟩
    | 9, _ => exact ⟨fun h => (by cases h), fun h => (by cases h), fun h => (by cases h)⟩
    | 10, _ =>
      refine ⟨fun _ => ⟨b, rfl, ?_⟩, fun h => (by cases h), fun h => (by cases h)⟩
      obtain ⟨scr, g1, g2, g3, g4, g5⟩ := hX
      refine ⟨scr, g1, g2, g3, Nat.le_of_eq g4.symm, by rw [g4]; rfl, fun j hj => ?_, Nat.not_le.mpr hbl⟩
      have hj : j < L := hj
      rw [g5 j hj]
      show _ = some (Value.int (Int32.ofInt (if j < L then (xs j).toInt else 0)))
      rw [if_pos hj, ofI_toI]
    | n + 11, h =>
      have e1 : zh0 (n + 11) = 119 := rfl
      exact ⟨fun h => (by cases h), fun h => (by cases h), fun h => (by cases h)⟩
end ST

theorem rel_start {ε : xE} {s : State} {L : Nat} {xs : Nat → Int32} (hL : L ≤ 3072) (h1 : eB ε = s.heap.size) (h2 : eH ε = s.heap) (h3 : eZ ε = z00 L) (h4 : eV ε = v00 L xs) : RelH ε (z00 L) (v00 L xs) s.heap := by
  refine ⟨⟨Nat.le_refl 16, by rw [h1]; rfl⟩, fun q _ => by rw [h2], fun a ha hb => absurd hb (Nat.not_lt.mpr ha), fun a _ => by rw [h3, h4]; exact agr.rf, rg_v00 L xs, fun a => ?_, fun a ha => ?_⟩
  · show ([0, 4, 4, 0, 0, 0, 85, 67, 10, 0, L] : List Nat).getD a 0 < _
    match a with
    | 0 => exact (by decide : 0 < 2147483648)
    | 1 => exact (by decide : 4 < 2147483648)
    | 2 => exact (by decide : 4 < 2147483648)
    | 3 => exact (by decide : 0 < 2147483648)
    | 4 => exact (by decide : 0 < 2147483648)
    | 5 => exact (by decide : 0 < 2147483648)
    | 6 => exact (by decide : 85 < 2147483648)
    | 7 => exact (by decide : 67 < 2147483648)
    | 8 => exact (by decide : 10 < 2147483648)
    | 9 => exact (by decide : 0 < 2147483648)
    | 10 => show L < _; omega
    | n + 11 => exact (by decide : 0 < 2147483648)
  · have ha : 16 ≤ a := ha
    match a, ha with
    | n + 16, _ => rfl
theorem ret_law {own ml : Nat} {ini : Bool} {pc : Nat} {raw i : Instr} {L S : List xv} {z zo : xZ} {v vo : xV} {ro : xv} (hr : rs own ml (some .boolean) ini pc raw = some i) (ha : act i L S z v = some (.inr (.inr (.inr (zo, vo, ro))))) : raw = .ireturn ∧ S = [ro] ∧ zo = z := by
  unfold rs cst at hr
  split at hr
  all_goals (repeat' split at hr)
  all_goals first
    | (cases hr; done)
    | (cases hr; exfalso; unfold act oBin oBinL oShL oUn oLoad oLoadA oLoadL oStore oStoreA oStoreL oInc at ha; dsimp only at ha; (repeat' split at ha) <;> (first | (cases ha; done) | exact rt_if ha | exact rt_sw _ ha))
    | skip
  all_goals
    rename_i q
    first
      | (cases q; done)
      | skip
  all_goals
    cases hr
    unfold act at ha
    dsimp only at ha
    split at ha
    · rename_i x
      split at ha
      · cases ha
        exact ⟨rfl, rfl, rfl⟩
      · cases ha
    · cases ha
theorem cx_law {ε : xE} {p : Program} {s : State} {m : MethodId} {meth : Method} {c : Code} {b L : Nat} {xs : Nat → Int32} (C0 : lw_At p s m meth c b L xs) (hT : Tab ε s) {d : Nat} (hd : d ≤ 1300) : Cx ε p room_1 s m #[Value.ref b] meth c 0 d := by
  obtain ⟨hx, hb, hr, hml, hown, hts, hX, hbl, hlocks, hgv⟩ := C0
  have h1 : room_1.frames = 2048 := rfl
  have h2 : room_1.locals = 84000 := rfl
  exact ⟨⟨hx, hb, hml, hr, hlocks⟩, hown, fun w h _ => hts w h, hT, fun h => absurd h (by decide), by rw [h1]; omega, by rw [h2]; omega⟩
theorem room_law {L : Nat} {zo : xZ} (hz1 : zn zo ≤ 600016) (hz2 : zs zo ≤ 7302250) : zn zo ≤ zn (z00 L) + room_1.cells ∧ zs zo ≤ zs (z00 L) + room_1.slots := by
  have h1 : room_1.cells = 600000 := rfl
  have h2 : room_1.slots = 7302250 := rfl
  have h3 : zn (z00 L) = 16 := rfl
  have h4 : zs (z00 L) = 0 := rfl
  rw [h1, h2, h3, h4]
  omega
/-- THE LAW: from what the small machine comes to -/
theorem law_of {p : Program} {e : Env} {s : State} {m : MethodId} {below : List Frame} {meth : Method} {c : Code} (l : Launch) {b L : Nat} {xs : Nat → Int32} (hL : L ≤ 3072) (C0 : lw_At p s m meth c b L xs) {d : Nat} (hd : d ≤ 1300)
    (hE : EvM TB (d + 1) 0 (z00 L) (v00 L xs) [.inr (.inl 10)] (fun z v r => r = .inl 1 ∧ zn z ≤ 600016 ∧ zs z ≤ 7302250)) : W p l e room_1 s m #[Value.ref b] below meth c s.heap [] 0 0 (lw_Z below #[Value.ref b] s) (entryFrame m ([Value.ref b] : List Value).toArray 4) := by
  obtain ⟨ε, e1, e2, e3, e4, e5, hT⟩ := tab_start C0
  have C := cx_law C0 hT hd
  obtain ⟨hx, hb, hr, hml, hown, hts, hX, hbl, hlocks, hgv⟩ := C0
  have hR := rel_start (ε := ε) hL e1 e2 e3 e4
  obtain ⟨zo, vo, ro, hz, ⟨rfl, hz1, hz2⟩, hE⟩ := EvM_dz TB (d + 1) _ _ _ _ _ hE
  have hroom := room_law (L := L) hz1 hz2
  have h3 : zn (z00 L) = 16 := rfl
  have h4 : zs (z00 L) = 0 := rfl
  have hg : zle (z00 L) zo ∧ (zle (z00 L) (z00 L) → Wx ε p l e room_1 s m #[Value.ref b] below meth c (lw_Z below #[Value.ref b] s) 0 (z00 L) 0 (lay [.inr (.inl 10)]) [] (z00 L) (v00 L xs)) := by
    refine hE (fun pc LL S z' v => zle z' zo ∧ (zle (z00 L) z' → Wx ε p l e room_1 s m #[Value.ref b] below meth c (lw_Z below #[Value.ref b] s) 0 (z00 L) pc LL S z' v)) ?_
    intro pc LL S z' v' hxs
    refine ⟨xs_zle (EvM_dz TB d) (fun _ _ _ _ _ h => h.1) (fun z v r h => by rw [h.1]; exact zle.rf _) _ _ _ _ _ hxs, fun h0' => ?_⟩
    refine snd_blk C (met_all d) (ini := inj 0) (fun h => of_decide_eq_true h) hroom ?_ _ pc LL S z' v' h0' (blk_ok (by decide) hxs) hxs
    intro pc L' S z v raw i len hdec hlen hrs ha
    obtain ⟨rfl, rfl, rfl⟩ := ret_law hrs ha
    have hl1 : len = 1 := by simpa [lnk] using hlen
    subst hl1
    intro H locs ls hR hLo hl gL gS
    refine va_forget (fun q hq => by rw [← e1]; exact hLo q hq) ?_
    refine W.widen (k := 600000) (n := 7302250) (by rw [h3]; omega) (by rw [h4]; omega) ?_
    exact lw_ret hx hb hr hlocks hdec
  have w := hg.2 (zle.rf _) s.heap [] ((lg_sl [Value.ref b] ++ List.replicate (4 - (lg_sl [Value.ref b]).length) Slot.unset).toArray) hR (fun q hq => by cases hq) (by
    have h := lv_entry ([.ref b]) (n := 4) (Nat.le_of_ble_eq_true rfl)
    have h2 : pr ε (lay [.inr (.inl 10)]) 0 = [(0, .ref b)] := by
      show [(0, rf ε 10)] = _
      rw [e5]
    unfold LR
    rw [h2]
    exact h) (RG.consR RG.nil) RG.nil
  rw [lg_entry_eq]
  rw [Nat.sub_self, Nat.sub_self] at w
  exact w
