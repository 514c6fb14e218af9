/-! ===== THE SMALL MACHINE IS THE JVM: what it comes to, the JVM comes to ===== -/
theorem wI : Cond.arrayClass .int ∈ lw_tbl := wd_mem (p := 1125) (by decide +kernel)
theorem wC : Cond.arrayClass .char ∈ lw_tbl := wd_mem (p := 2107) (by decide +kernel)
theorem wL : Cond.arrayClass .long ∈ lw_tbl := wd_mem (p := 5164) (by decide +kernel)
theorem wOi : Cond.instanceMethod Lib.objectInit ∈ lw_tbl := wd_mem (p := 1029) (by decide +kernel)
theorem wOc : Cond.code Lib.objectInit ⟨#[0xb1]⟩ 1 none ∈ lw_tbl := wd_mem (p := 1030) (by decide +kernel)
theorem wAn : Cond.native arraycopyName ∈ lw_tbl := wd_mem (p := 2213) (by decide +kernel)
theorem wAs : Cond.static arraycopyName ∈ lw_tbl := wd_mem (p := 2212) (by decide +kernel)
theorem wAi : Cond.initialized "java/lang/System" ∈ lw_tbl := wd_mem (p := 1013) (by decide +kernel)
theorem wMi : Cond.initialized "java/lang/Math" ∈ lw_tbl := wd_mem (p := 1008) (by decide +kernel)
theorem wM1s : Cond.static Lib.Math.max.name ∈ lw_tbl := wd_mem (p := 1220) (by decide +kernel)
theorem wM1c : Cond.code Lib.Math.max.name Lib.Math.max.code 2 (some .int) ∈ lw_tbl := wd_mem (p := 1221) (by decide +kernel)
theorem wM2s : Cond.static Lib.Math.min.name ∈ lw_tbl := wd_mem (p := 2215) (by decide +kernel)
theorem wM2c : Cond.code Lib.Math.min.name Lib.Math.min.code 2 (some .int) ∈ lw_tbl := wd_mem (p := 2216) (by decide +kernel)
theorem wM3s : Cond.static Lib.Math.abs.name ∈ lw_tbl := wd_mem (p := 4145) (by decide +kernel)
theorem wM3c : Cond.code Lib.Math.abs.name Lib.Math.abs.code 1 (some .int) ∈ lw_tbl := wd_mem (p := 4146) (by decide +kernel)
theorem wM4s : Cond.static Lib.MathLoose.abs_long.x ∈ lw_tbl := wd_mem (p := 4182) (by decide +kernel)
theorem wM4c : Cond.code Lib.MathLoose.abs_long.x Lib.MathLoose.abs_long.code 2 (some .long) ∈ lw_tbl := wd_mem (p := 4183) (by decide +kernel)
theorem wM5s : Cond.static Lib.MathLoose.max_long.x ∈ lw_tbl := wd_mem (p := 4185) (by decide +kernel)
theorem wM5c : Cond.code Lib.MathLoose.max_long.x Lib.MathLoose.max_long.code 4 (some .long) ∈ lw_tbl := wd_mem (p := 4186) (by decide +kernel)
theorem cl_ok {o i kind k n : Nat} (h : look tM o i = some (kind, k, n)) : ∃ p, cOk (o, i, kind, k, n, p) := by
  obtain ⟨q, hq, he⟩ := tMp_all _ (look_mem h)
  have h2 := cOk_all q hq
  obtain ⟨q1, q2, q3, q4, q5, q6⟩ := q
  simp only [Prod.mk.injEq] at he
  obtain ⟨rfl, rfl, rfl, rfl, rfl⟩ := he
  exact ⟨q6, h2⟩
theorem cst_inv {n : Int} {i : Instr} (h : cst n = some i) : i = .iconst n ∧ rg n := by
  unfold cst at h
  split at h
  · cases h
    rename_i q
    exact ⟨rfl, q⟩
  · cases h
section SZ
variable {ε : xE} {p : Program} {l : Launch} {e : Env} {R : Room} {s : State} {m : MethodId} {args : Array Value} {below : List Frame} {meth : Method} {c : Code} {Tg : State → Prop} {j d : Nat} {z0 : xZ} {pc : Nat} {L S : List xv} {z : xZ} {v : xV}
theorem sn_switchT (C : Cx ε p R s m args meth c j d) {df lo hi : Int} {offs : Array Int} {len : Nat} (hd : decode (bc j) pc = .ok (.tableswitch df lo hi offs, len)) (h1 : 0 ≤ (pc : Int) + df) (h2 : ∀ o ∈ offs.toList, 0 ≤ (pc : Int) + o) (h3 : hi = lo + offs.size - 1)
    (K : Nx ε p l e R s m args below meth c Tg j z0 (pc + len) (act (.lookupswitch (pc + df) ((List.range offs.size).map fun i => (lo + (i : Nat), (pc : Int) + offs.getD i 0)).toArray) L S z v)) : Wx ε p l e R s m args below meth c Tg j z0 pc L S z v := by
  unfold act at K
  dsimp only at K
  split at K
  · rename_i x r
    intro H locs ls hR hL hl gL gS
    have key : ∀ (ks : List Nat), (∀ k ∈ ks, k < offs.size) → Nx ε p l e R s m args below meth c Tg j z0 (pc + len) (oSw (ks.map fun i => (lo + (i : Nat), (pc : Int) + offs.getD i 0)) (pc + df) x L r z v) →
        (∃ k ∈ ks, x = lo + (k : Nat) ∧ Wx ε p l e R s m args below meth c Tg j z0 ((pc : Int) + offs.getD k 0).toNat L r z v) ∨ ((∀ k ∈ ks, x ≠ lo + (k : Nat)) ∧ Wx ε p l e R s m args below meth c Tg j z0 ((pc : Int) + df).toNat L r z v) := by
      intro ks
      induction ks with
      | nil => exact fun _ K => Or.inr ⟨fun k hk => (by cases hk), K⟩
      | cons k ks ih =>
        intro hks K
        rw [List.map_cons] at K
        unfold oSw at K
        split at K
        · rename_i q
          exact Or.inl ⟨k, List.mem_cons_self, q, K⟩
        · rename_i q
          rcases ih (fun a ha => hks a (List.mem_cons_of_mem _ ha)) K with ⟨a, ha, h, w⟩ | ⟨h, w⟩
          · exact Or.inl ⟨a, List.mem_cons_of_mem _ ha, h, w⟩
          · refine Or.inr ⟨fun a ha => ?_, w⟩
            rcases List.mem_cons.mp ha with e | e
            · rw [e]; exact q
            · exact h a e
    have hx : (Int32.ofInt x).toInt = x := toI_of gS.hd
    rcases key (List.range offs.size) (fun k hk => List.mem_range.mp hk) K with ⟨k, hk, q, w⟩ | ⟨h, w⟩
    · have hk := List.mem_range.mp hk
      have hg : offs[k]? = some (offs.getD k 0) := by
        rw [Array.getD_eq_getD_getElem?, Array.getElem?_eq_getElem hk]
        rfl
      have h4 : 0 ≤ (pc : Int) + offs.getD k 0 := h2 _ (by
        rw [Array.mem_toList_iff]
        exact Array.mem_of_getElem? hg)
      exact lv_tableIn C.1.1 C.1.2.1 hd (by rw [hx]; omega) (by rw [hx]; omega) (by rw [hx, show (x - lo).toNat = k by omega]; exact hg) (Int.toNat_of_nonneg h4).symm (w H locs ls hR hL hl gL gS.tl)
    · refine lv_tableOut C.1.1 C.1.2.1 hd ?_ (Int.toNat_of_nonneg h1).symm (w H locs ls hR hL hl gL gS.tl)
      rw [hx]
      rcases Int.lt_or_le x lo with q | q
      · exact Or.inl q
      · refine Or.inr ?_
        rcases Int.lt_or_le hi x with q2 | q2
        · exact q2
        · exact absurd (show x = lo + ((x - lo).toNat : Nat) by omega) (h (x - lo).toNat (List.mem_range.mpr (by omega)))
  · exact K.elim
theorem sw_off (ps : List (Int × Int)) (df x : Int) (pc : Nat) : (∀ o ∈ ps, 0 ≤ (pc : Int) + o.2) → 0 ≤ (pc : Int) + df → 0 ≤ (pc : Int) + Op.lookupswitch.offset ps df x := by
  induction ps with
  | nil => exact fun _ h => h
  | cons q ps ih =>
    intro h1 h2
    obtain ⟨a, o⟩ := q
    rw [Op.lookupswitch.offset_cons]
    split
    · exact h1 _ List.mem_cons_self
    · exact ih (fun o ho => h1 o (List.mem_cons_of_mem _ ho)) h2
theorem sn_switchL (C : Cx ε p R s m args meth c j d) {df : Int} {ps : Array (Int × Int)} {len : Nat} (hd : decode (bc j) pc = .ok (.lookupswitch df ps, len)) (h1 : 0 ≤ (pc : Int) + df) (h2 : ∀ o ∈ ps.toList, 0 ≤ (pc : Int) + o.2) (h3 : (ps.toList.zip (ps.toList.drop 1)).all (fun (a, next) => a.1 < next.1) = true)
    (K : Nx ε p l e R s m args below meth c Tg j z0 (pc + len) (act (.lookupswitch (pc + df) (ps.toList.map fun q => (q.1, (pc : Int) + q.2)).toArray) L S z v)) : Wx ε p l e R s m args below meth c Tg j z0 pc L S z v := by
  unfold act at K
  dsimp only at K
  split at K
  · rename_i x r
    intro H locs ls hR hL hl gL gS
    have key : ∀ (qs : List (Int × Int)), Nx ε p l e R s m args below meth c Tg j z0 (pc + len) (oSw (qs.map fun q => (q.1, (pc : Int) + q.2)) (pc + df) x L r z v) → Wx ε p l e R s m args below meth c Tg j z0 ((pc : Int) + Op.lookupswitch.offset qs df x).toNat L r z v := by
      intro qs
      induction qs with
      | nil => exact fun K => K
      | cons q qs ih =>
        intro K
        obtain ⟨a, o⟩ := q
        rw [List.map_cons] at K
        unfold oSw at K
        rw [Op.lookupswitch.offset_cons]
        by_cases e1 : x = a
        · rw [if_pos e1] at K
          rw [if_pos e1.symm]
          exact K
        · rw [if_neg e1] at K
          rw [if_neg (fun h => e1 h.symm)]
          exact ih K
    have w := key ps.toList K
    have hx : (Int32.ofInt x).toInt = x := toI_of gS.hd
    exact lv_lookup C.1.1 C.1.2.1 hd h3 (by rw [hx]) (Int.toNat_of_nonneg (sw_off ps.toList df x pc h2 h1)).symm (w H locs ls hR hL hl gL gS.tl)
  · exact K.elim
end SZ
