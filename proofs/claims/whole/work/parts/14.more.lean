/-! ===== arrays of references, of two dimensions, copies, statics, Math ===== -/
theorem outer_eq (c : ClassId) (N h0 : Nat) : ∀ i : Nat, Jvm.Free.Multi.outerC c N h0 i = arrV c N (fun k => if k < i then .ref (h0 + 1 + k) else .null)
  | 0 => by
    show ({ cls := c, slots := Array.replicate N .null, vm := .none } : Cell) = _
    rw [arrV_new]
    refine congrArg (arrV c N) (funext fun k => ?_)
    rw [if_neg (by omega)]
  | i + 1 => by
    show (Jvm.Free.Multi.outerC c N h0 i).setSlot i (.ref (h0 + 1 + i)) = _
    rw [outer_eq c N h0 i, arrV_store]
    refine congrArg (arrV c N) (funext fun k => ?_)
    unfold updV
    by_cases q : k = i
    · subst q
      rw [if_pos rfl, if_pos (by omega)]
    · rw [if_neg q]
      dsimp only
      by_cases q2 : k < i
      · rw [if_pos q2, if_pos (by omega)]
      · rw [if_neg q2, if_neg (by omega)]
theorem nfw : nativeFrameWords "java/lang/System" "arraycopy" 5 + 11 ≤ 64 := by decide +kernel
theorem sh4_cat {ε : xE} : ∀ {r : List xv}, sh4 r = true → ((r.map (cv ε)).map fun v => v.category).sum ≤ 8 := by
  intro r h
  have key : ∀ x : xv, (cv ε x).category ≤ 2 := fun x => by
    rcases lv_cat (cv ε x) with q | q <;> omega
  match r, h with
  | [], _ => simp
  | [a], _ =>
    have := key a
    simp only [List.map_cons, List.map_nil, List.sum_cons, List.sum_nil]
    omega
  | [a, b], _ =>
    have := key a
    have := key b
    simp only [List.map_cons, List.map_nil, List.sum_cons, List.sum_nil]
    omega
  | [a, b, c], _ =>
    have := key a
    have := key b
    have := key c
    simp only [List.map_cons, List.map_nil, List.sum_cons, List.sum_nil]
    omega
  | [a, b, c, d], _ =>
    have := key a
    have := key b
    have := key c
    have := key d
    simp only [List.map_cons, List.map_nil, List.sum_cons, List.sum_nil]
    omega
  | a :: b :: c :: d :: e :: r, h => cases h
theorem ao_at {A : Array Value} {ty : FieldType} {U : State} (h : (Cond.arrayOver ty).before #[] U = true) : (Cond.arrayOver ty).before A U = true := h
section SM
variable {ε : xE} {p : Program} {l : Launch} {e : Env} {R : Room} {s : State} {m : MethodId} {args : Array Value} {below : List Frame} {meth : Method} {c : Code} {Tg : State → Prop} {j d : Nat} {z0 : xZ} {pc : Nat} {L S : List xv} {z : xZ} {v : xV}
theorem sn_anew (C : Cx ε p R s m args meth c j d) {i : Nat} (hF : look tC (ow j) i = some 6) (h0 : zn z0 ≤ zn z ∧ zs z0 ≤ zs z) (hd : decode (bc j) pc = .ok (.anewarray i, 3)) (K : Nx ε p l e R s m args below meth c Tg j z0 (pc + 3) (act (.anewarray 0) L S z v)) : Wx ε p l e R s m args below meth c Tg j z0 pc L S z v := by
  unfold act at K
  dsimp only at K
  split at K
  · rename_i x r
    split at K
    · rename_i hx
      obtain ⟨⟨r1, r2⟩, K⟩ := K
      intro H locs ls hR hL hl gL gS
      have z1 : zn (nwZ z 104 x.toNat x.toNat) = zn z + 1 := rfl
      have z2 : zs (nwZ z 104 x.toNat x.toNat) = zs z + x.toNat := rfl
      rw [z1] at r1
      rw [z2] at r2
      obtain ⟨q, -, -, -, hq⟩ := tCp_ok _ (look_mem hF)
      have hw := wd_mem hq
      have hn0 : ¬ Int32.ofInt x < 0 := fun q => by rw [← ofI_zero, ofI_lt gS.hd ⟨by decide, by decide⟩] at q; omega
      have hnn := ofI_nat gS.hd
      refine W.anew (C := "GriefWood$Scene") C.1.1 C.1.2.1 C.2.1 (C.2.2.1 _ hw rfl) (va_AO.use C.T.2.2.2.2.2.2.1) rfl hd rfl hn0 (by rw [hnn]; omega) (by omega) (by rw [hnn]; omega) fun cA kA comp f1 f2 f3 f4 => ?_
      rw [hnn]
      obtain ⟨kA2, comp2, w1, w2, w3, w4⟩ := (C.K.2 3 _ rfl).2
      have hcA : cA = eC ε 104 := Option.some.inj (f1.symm.trans w4)
      subst hcA
      generalize hH1 : H.push ({ cls := eC ε 104, slots := Array.replicate x.toNat .null, vm := .none } : Cell) = H'
      have g2 : H'.size = H.size + 1 := by rw [← hH1, Array.size_push]
      have g1 : H'[H.size]? = some (arrV (eC ε 104) x.toNat (fun _ => .null)) := by rw [← hH1, Array.getElem?_push_size, ← arrV_new]
      have g3 : ∀ q : Nat, q < H.size → H'[q]? = H[q]? := fun q hq => by rw [← hH1, Array.getElem?_push, if_neg (Nat.ne_of_lt hq)]
      have hh : zh (nwZ z 104 x.toNat x.toNat) z.1 = 104 := by
        show (if z.1 = z.1 then 104 else _) = 104
        rw [if_pos rfl]
      have hll : zl (nwZ z 104 x.toNat x.toNat) z.1 = x.toNat := by
        show (if z.1 = z.1 then x.toNat else _) = x.toNat
        rw [if_pos rfl]
      have hvv : ∀ k, sv ε (nwZ z 104 x.toNat x.toNat) (nwV v z.1) z.1 k = .null := fun k => by
        rw [sv_r (by rw [hh]; rfl)]
        have : zr (nwZ z 104 x.toNat x.toNat) z.1 k = 0 := by
          show (if z.1 = z.1 then 0 else _) = 0
          rw [if_pos rfl]
        rw [this]
        rfl
      have hR' : RelH ε (nwZ z 104 x.toNat x.toNat) (nwV v z.1) H' := by
        refine hR.push g2 g3 (by omega) (Or.inr ⟨by rw [hh]; unfold aT; omega, ?_⟩)
        rw [hh, hll, ra_new hR, g1, show sv ε (nwZ z 104 x.toNat x.toNat) (nwV v z.1) z.1 = fun _ => .null from funext hvv]
      have K1 := K H' locs ls hR' hL hl gL (RG.consR gS.tl)
      rw [z1, z2, List.map_cons, show cv ε (.inr (.inl z.1)) = rf ε z.1 from rfl, rf_hi (by have := hR.1.1; have hz1 : z.1 = zn z := rfl; omega), ra_new hR, show zn z + 1 - zn z0 = zn z - zn z0 + 1 by omega, show zs z + x.toNat - zs z0 = zs z - zs z0 + x.toNat by omega] at K1
      exact K1
    · exact K.elim
  · exact K.elim
theorem sn_multi (C : Cx ε p R s m args meth c j d) {i : Nat} (hF : look tC (ow j) i = some 105) (hwi : Cond.arrayClass .int ∈ lw_tbl) (h0 : zn z0 ≤ zn z ∧ zs z0 ≤ zs z) (hd : decode (bc j) pc = .ok (.multianewarray i 2, 4)) (K : Nx ε p l e R s m args below meth c Tg j z0 (pc + 4) (act (.multianewarray 0 0) L S z v)) : Wx ε p l e R s m args below meth c Tg j z0 pc L S z v := by
  unfold act at K
  dsimp only at K
  split at K
  · rename_i y x r
    split at K
    · rename_i hx
      obtain ⟨⟨r1, r2⟩, K⟩ := K
      intro H locs ls hR hL hl gL gS
      have z1 : zn (nwZM z x.toNat y.toNat) = zn z + 1 + x.toNat := rfl
      have z2 : zs (nwZM z x.toNat y.toNat) = zs z + (x.toNat + x.toNat * y.toNat) := rfl
      rw [z1] at r1
      rw [z2] at r2
      obtain ⟨q, -, -, -, hq⟩ := tCp_ok _ (look_mem hF)
      have hw := wd_mem hq
      have hnx := ofI_nat gS.tl.hd
      have hny := ofI_nat gS.hd
      intro T hT Xs
      obtain ⟨vm₁, cA, comp, -, fA, fC, hO, -, X', step⟩ := Xs.multianewarray2F (ty := .int) C.1.1 C.2.1 (C.2.2.1 _ hw rfl) (ao_at C.T.2.2.2.2.2.2.2) (C.2.2.1 _ hwi rfl) (g := F0 m pc ls (.int (Int32.ofInt y) :: .int (Int32.ofInt x) :: r.map (cv ε))) rfl (by rw [C.1.2.1]; exact hd) rfl
        (fun q => by rw [← ofI_zero, ofI_lt gS.tl.hd ⟨by decide, by decide⟩] at q; omega) (fun q => by rw [← ofI_zero, ofI_lt gS.hd ⟨by decide, by decide⟩] at q; omega) (by rw [hnx]; omega) (by rw [hny]; show y.toNat * 4 ≤ _; omega) (by rw [hny]; omega) rfl rfl (by rw [hnx]; omega) (by rw [hnx, hny]; omega)
      rw [hnx, hny] at X' step
      have ecA : cA = eC ε 105 := Option.some.inj (fA.symm.trans (C.K.2 4 _ rfl).2)
      have eco : comp = eC ε 100 := Option.some.inj (fC.symm.trans (C.K.2 0 _ rfl).2)
      subst ecA
      subst eco
      have hTh : (T.setVm vm₁).heap = H := hT
      obtain ⟨f1, f2, -, -⟩ := Jvm.Free.Multi.fill_facts (T.setVm vm₁) (eC ε 105) (eC ε 100) x.toNat y.toNat (defaultValue .int) x.toNat
      have hold : ∀ a : Nat, a < H.size → (Jvm.Free.Multi.fill (T.setVm vm₁) (eC ε 105) (eC ε 100) x.toNat y.toNat (defaultValue .int) x.toNat).heap[a]? = H[a]? := fun a ha => by
        have := Jvm.Free.Multi.fill_old (T.setVm vm₁) (eC ε 105) (eC ε 100) x.toNat y.toNat (defaultValue .int) (a := a) (by rw [hTh]; exact ha) x.toNat
        rw [hTh] at this
        exact this
      have hrow : ∀ k : Nat, k < x.toNat → (Jvm.Free.Multi.fill (T.setVm vm₁) (eC ε 105) (eC ε 100) x.toNat y.toNat (defaultValue .int) x.toNat).heap[H.size + 1 + k]? = some (arrV (eC ε 100) y.toNat (fun _ => .int 0)) := fun k hk => by
        have := Jvm.Free.Multi.fill_inner (T.setVm vm₁) (eC ε 105) (eC ε 100) x.toNat y.toNat (defaultValue .int) x.toNat k hk
        rw [hTh] at this
        rw [this, ← arrV_new]
        rfl
      rw [hTh] at f1 f2
      rw [outer_eq] at f2
      generalize Jvm.Free.Multi.fill (T.setVm vm₁) (eC ε 105) (eC ε 100) x.toNat y.toNat (defaultValue .int) x.toNat = F at X' step f1 f2 hold hrow
      have hz1 : z.1 = zn z := rfl
      have h16 := hR.1.1
      have hsz := hR.1.2
      have hR' : RelH ε (nwZM z x.toNat y.toNat) (nwVM v z.1 x.toNat) F.heap := by
        have ag : ∀ b, ¬ (z.1 ≤ b ∧ b ≤ z.1 + x.toNat) → agr b z v (nwZM z x.toNat y.toNat) (nwVM v z.1 x.toNat) := fun b hb => by
          have b1 : ¬ b = z.1 := fun q => hb (by omega)
          have b2 : ¬ (z.1 < b ∧ b ≤ z.1 + x.toNat) := fun q => hb (by omega)
          refine ⟨?_, ?_, fun k => ?_, fun k => ?_, fun k => ?_⟩
          · show (if b = z.1 then 105 else if z.1 < b ∧ b ≤ z.1 + x.toNat then 100 else _) = _
            rw [if_neg b1, if_neg b2]; rfl
          · show (if b = z.1 then _ else if z.1 < b ∧ b ≤ z.1 + x.toNat then _ else _) = _
            rw [if_neg b1, if_neg b2]; rfl
          · show (if b = z.1 then _ else if z.1 < b ∧ b ≤ z.1 + x.toNat then _ else _) = _
            rw [if_neg b1, if_neg b2]; rfl
          · show (if z.1 ≤ b ∧ b ≤ z.1 + x.toNat then _ else _) = _
            rw [if_neg hb]; rfl
          · show (if z.1 ≤ b ∧ b ≤ z.1 + x.toNat then _ else _) = _
            rw [if_neg hb]
        refine hR.step (by omega) (by omega) (fun q hq => hold q (by omega)) (fun b hb1 hb2 => ?_) (fun b hb => ag b (by omega)) (fun b k => ?_) (fun b => ?_) (fun b hb => ?_)
        · by_cases e1 : b = z.1
          · subst e1
            have hh : zh (nwZM z x.toNat y.toNat) z.1 = 105 := by
              show (if z.1 = z.1 then 105 else _) = 105
              rw [if_pos rfl]
            have hll : zl (nwZM z x.toNat y.toNat) z.1 = x.toNat := by
              show (if z.1 = z.1 then x.toNat else _) = x.toNat
              rw [if_pos rfl]
            refine Or.inr (Or.inr ⟨by rw [hh]; unfold aT; omega, ?_⟩)
            rw [hh, hll, ra_new hR, f2]
            refine congrArg (fun f => some (arrV (eC ε 105) x.toNat f)) (funext fun k => ?_)
            rw [sv_r (by rw [hh]; rfl)]
            have hzr : zr (nwZM z x.toNat y.toNat) z.1 k = if k < x.toNat then z.1 + 1 + k else 0 := by
              show (if z.1 = z.1 then (if k < x.toNat then z.1 + 1 + k else 0) else _) = _
              rw [if_pos rfl]
            rw [hzr]
            by_cases q : k < x.toNat
            · have hra : ra ε (z.1 + 1 + k) = H.size + 1 + k := by
                unfold ra
                omega
              have hrf : rf ε (z.1 + 1 + k) = .ref (ra ε (z.1 + 1 + k)) := rf_hi (by omega)
              simp only [q, if_true]
              rw [hrf, hra]
            · simp only [q, if_false]
              rfl
          · by_cases e2 : z.1 < b ∧ b ≤ z.1 + x.toNat
            · have hh : zh (nwZM z x.toNat y.toNat) b = 100 := by
                show (if b = z.1 then 105 else if z.1 < b ∧ b ≤ z.1 + x.toNat then 100 else _) = 100
                rw [if_neg e1, if_pos e2]
              have hll : zl (nwZM z x.toNat y.toNat) b = y.toNat := by
                show (if b = z.1 then _ else if z.1 < b ∧ b ≤ z.1 + x.toNat then y.toNat else _) = _
                rw [if_neg e1, if_pos e2]
              refine Or.inr (Or.inr ⟨by rw [hh]; unfold aT; omega, ?_⟩)
              have hrb : ra ε b = H.size + 1 + (b - z.1 - 1) := by
                unfold ra
                omega
              rw [hh, hll, hrb, hrow _ (by omega)]
              refine congrArg (fun f => some (arrV (eC ε 100) y.toNat f)) (funext fun k => ?_)
              rw [sv_i (by rw [hh]; rfl)]
              have : nwVM v z.1 x.toNat b k = 0 := by
                show (if z.1 ≤ b ∧ b ≤ z.1 + x.toNat then (0 : Int) else _) = 0
                rw [if_pos (by omega)]
              rw [this]
              rfl
            · exact Or.inl ⟨by omega, ag b (by omega), hold _ ((ra_lt hR hb1).mpr (by omega))⟩
        · show rg (if z.1 ≤ b ∧ b ≤ z.1 + x.toNat then 0 else v b k)
          split
          · exact ⟨by decide, by decide⟩
          · exact hR.2.2.2.2.1 b k
        · show (if b = z.1 then x.toNat else if z.1 < b ∧ b ≤ z.1 + x.toNat then y.toNat else _) < _
          split
          · omega
          · split
            · omega
            · exact hR.2.2.2.2.2.1 b
        · rw [(ag b (by omega)).1]
          exact hR.2.2.2.2.2.2 b (by omega)
      have K1 := K F.heap locs ls hR' hL hl gL (RG.consR gS.tl.tl)
      rw [z1, z2, List.map_cons, show cv ε (.inr (.inl z.1)) = rf ε z.1 from rfl, rf_hi (by omega), ra_new hR, show zn z + 1 + x.toNat - zn z0 = zn z - zn z0 + 1 + x.toNat by omega, show zs z + (x.toNat + x.toNat * y.toNat) - zs z0 = zs z - zs z0 + x.toNat + x.toNat * y.toNat by omega] at K1
      obtain ⟨t, a1, b1⟩ := K1 F rfl X'
      refine ⟨t, ?_, b1⟩
      rw [hT] at step
      exact step t a1
    · exact K.elim
  · exact K.elim
theorem w_stat (C : Cx ε p R s m args meth c j d) {i : Nat} {q : String × String × String × (Int ⊕ Nat)} (hF : look tS (ow j) i = some q) (hd : decode (bc j) pc = .ok (.getstatic i, 3)) {H : Heap} {locs : List Loc} {ls : Array Slot} {rest : List Value} {cs sl : Nat} (hR : RelH ε z v H)
    (K : W p l e R s m args below meth c H locs cs sl Tg (F0 m (pc + 3) ls (cv ε (match q.2.2.2 with | .inl c => .inl c | .inr a => .inr (.inl a)) :: rest))) : W p l e R s m args below meth c H locs cs sl Tg (F0 m pc ls rest) := by
  obtain ⟨r, -, -, -, hq⟩ := tSp_ok _ (look_mem hF)
  obtain ⟨cf, kf, fi, f, a, cell, h1, h2, h3, h4, h5, h6, h7, h8⟩ := (C.T.2.2.2.1 _ (look_mem hF)).kept (hR.kept C.T)
  exact W.gets C.1.1 C.1.2.1 C.2.1 (C.2.2.1 _ (wd_mem hq) rfl) h1 h2 h3 h4 h5 (fun e => by rw [e] at h6; cases h6) h7 rfl hd K
theorem sn_statI (C : Cx ε p R s m args meth c j d) {i : Nat} {q1 q2 q3 : String} {n : Int} (hF : look tS (ow j) i = some (q1, q2, q3, .inl n)) (hn : rg n) (hd : decode (bc j) pc = .ok (.getstatic i, 3)) (K : Nx ε p l e R s m args below meth c Tg j z0 (pc + 3) (cA1 L (.inl n :: S) z v)) : Wx ε p l e R s m args below meth c Tg j z0 pc L S z v := by
  intro H locs ls hR hL hl gL gS
  exact w_stat C hF hd hR (K.2 H locs ls hR hL hl gL (RG.cons hn gS))
theorem sn_statR (C : Cx ε p R s m args meth c j d) {i a : Nat} {q1 q2 q3 : String} (hF : look tS (ow j) i = some (q1, q2, q3, .inr a)) (hd : decode (bc j) pc = .ok (.getstatic i, 3)) (K : Nx ε p l e R s m args below meth c Tg j z0 (pc + 3) (cA1 L (.inr (.inl a) :: S) z v)) : Wx ε p l e R s m args below meth c Tg j z0 pc L S z v := by
  intro H locs ls hR hL hl gL gS
  exact w_stat C hF hd hR (K.2 H locs ls hR hL hl gL (RG.consR gS))
theorem sn_objInit (C : Cx ε p R s m args meth c j d) {i : Nat} (hw : Cond.methodLink (on (ow j)) i Lib.objectInit ∈ lw_tbl) (hwi : Cond.instanceMethod Lib.objectInit ∈ lw_tbl) (hwc : Cond.code Lib.objectInit ⟨#[0xb1]⟩ 1 none ∈ lw_tbl) (hd : decode (bc j) pc = .ok (.invokespecial i, 3)) (K : Nx ε p l e R s m args below meth c Tg j z0 (pc + 3) (act .monitorenter L S z v)) : Wx ε p l e R s m args below meth c Tg j z0 pc L S z v := by
  unfold act at K
  dsimp only at K
  split at K
  · rename_i a
    split at K
    · rename_i hz
      intro H locs ls hR hL hl gL gS
      have K1 := K.2 H locs ls hR hL hl gL gS.tl
      obtain ⟨ha, -⟩ := obj_at C.T hR rfl hz
      have hfr := C.2.2.2.2.2.1
      have hlo := C.2.2.2.2.2.2
      show W p l e R s m args below meth c H locs _ _ Tg (F0 m pc ls [rf ε a])
      rw [rf_hi ha]
      exact W.objInit C.1.1 C.1.2.1 C.2.1 (C.2.2.1 _ hw rfl) (C.2.2.1 _ hwi rfl) (C.2.2.1 _ hwc rfl) rfl (by rw [C.1.2.2.1]; exact hl.1) rfl hd (by omega) (by show 2 * 0 + 0 + 12 ≤ _; omega) K1
    · exact K.elim
  · exact K.elim
theorem sn_copy (C : Cx ε p R s m args meth c j d) {i : Nat} (hw : Cond.methodLink (on (ow j)) i arraycopyName ∈ lw_tbl) (hwn : Cond.native arraycopyName ∈ lw_tbl) (hws : Cond.static arraycopyName ∈ lw_tbl) (hwi : Cond.initialized "java/lang/System" ∈ lw_tbl) (hd : decode (bc j) pc = .ok (.invokestatic i, 3)) (K : Nx ε p l e R s m args below meth c Tg j z0 (pc + 3) (act .dneg L S z v)) : Wx ε p l e R s m args below meth c Tg j z0 pc L S z v := by
  unfold act at K
  dsimp only at K
  split at K
  · rename_i n dp b sp a
    split at K
    · rename_i hz
      obtain ⟨hza, hzb, k1, k2, k3, k4, k5⟩ := hz
      intro H locs ls hR hL hl gL gS
      have gn := gS.hd
      have gd := gS.tl.hd
      have gs := gS.tl.tl.tl.hd
      obtain ⟨ha, hab, hca⟩ := arr_at C.T hR hza (by unfold aT; omega)
      obtain ⟨hb, hbb, hcb⟩ := arr_at C.T hR hzb (by unfold aT; omega)
      have sva : sv ε z v a = fun k => .int (Int32.ofInt (v a k)) := funext fun k => sv_i (by rw [hza]; rfl)
      have svb : sv ε z v b = fun k => .int (Int32.ofInt (v b k)) := funext fun k => sv_i (by rw [hzb]; rfl)
      rw [sva] at hca
      rw [svb] at hcb
      show W p l e R s m args below meth c H locs _ _ Tg (F0 m pc ls [.int (Int32.ofInt n), .int (Int32.ofInt dp), rf ε b, .int (Int32.ofInt sp), rf ε a])
      rw [rf_hi ha, rf_hi hb]
      have pos : ∀ {x : Int}, rg x → 0 ≤ x → ¬ Int32.ofInt x < 0 := fun hx h q => by rw [← ofI_zero, ofI_lt hx ⟨by decide, by decide⟩] at q; omega
      have hfr := C.2.2.2.2.2.1
      have hlo := C.2.2.2.2.2.2
      intro T hT X
      obtain ⟨-, kk0, hk0, cm0, hkk0⟩ := (C.K.2 0 _ rfl).1 (zl z a) (fun k => .int (Int32.ofInt (v a k)))
      obtain ⟨vm', X', step⟩ := X.arraycopy C.1.1 C.2.1 (C.2.2.1 _ hw rfl) (C.2.2.1 _ hwn rfl) (C.2.2.1 _ hws rfl) (C.2.2.1 _ hwi rfl) (src := ra ε a) (dst := ra ε b) (cs := arrV (eC ε 100) (zl z a) (fun k => .int (Int32.ofInt (v a k)))) (cd := arrV (eC ε 100) (zl z b) (fun k => .int (Int32.ofInt (v b k)))) (srcPos := Int32.ofInt sp) (destPos := Int32.ofInt dp) (n := Int32.ofInt n) (by rw [hT]; exact hca) (by rw [hT]; exact hcb)
        (fun _ h => by cases h) (fun _ h => by cases h) (fun h => by cases h) (fun h => by cases h) hk0 hk0 hkk0 hkk0 (by simp [show refKind FieldType.int = false from rfl]) (pos gs k3) (pos gd k2) (pos gn k1)
        (by rw [toI_of gs, toI_of gn, arrV_size]; omega)
        (by rw [toI_of gd, toI_of gn, arrV_size]; omega)
        (fun vm₁ _ q hq => by
          rw [ofI_nat gn] at hq
          have e : (arrV (eC ε 100) (zl z a) (fun k => .int (Int32.ofInt (v a k)))).slots.getD ((Int32.ofInt sp).toNatClampNeg + q) .null = .int (Int32.ofInt (v a ((Int32.ofInt sp).toNatClampNeg + q))) := by
            rw [Array.getD_eq_getD_getElem?, arrV_read _ _ (by rw [ofI_nat gs]; omega)]
            rfl
          refine ⟨?_, ?_⟩
          · rw [e]
            rfl
          · rw [e]
            exact trivial)
        (g := F0 m pc ls [.int (Int32.ofInt n), .int (Int32.ofInt dp), .ref (ra ε b), .int (Int32.ofInt sp), .ref (ra ε a)]) rfl (by rw [C.1.2.2.1]; exact hl.1) (rest := []) rfl (by rw [C.1.2.1]; exact hd) (by omega) (by have := nfw; show 2 * 0 + 0 + _ ≤ _; omega)
      have e1 : copied (arrV (eC ε 100) (zl z a) (fun k => .int (Int32.ofInt (v a k)))) (arrV (eC ε 100) (zl z b) (fun k => .int (Int32.ofInt (v b k)))) (Int32.ofInt sp) (Int32.ofInt dp) (Int32.ofInt n) = arrV (eC ε 100) (zl z b) (fun k => .int (va_cpy (fun k => Int32.ofInt (v a k)) (fun k => Int32.ofInt (v b k)) (Int32.ofInt sp).toNatClampNeg (Int32.ofInt dp).toNatClampNeg (Int32.ofInt n).toNatClampNeg k)) := va_copied (fun z => .int z) (eC ε 100) (eC ε 100) (fun k => Int32.ofInt (v a k)) (fun k => Int32.ofInt (v b k)) (by rw [ofI_nat gs, ofI_nat gn]; omega)
      rw [e1] at X' step
      have hlt : ra ε b < H.size := (Array.getElem?_eq_some_iff.mp hcb).1
      generalize hcell : arrV (eC ε 100) (zl z b) (fun k => .int (va_cpy (fun k => Int32.ofInt (v a k)) (fun k => Int32.ofInt (v b k)) (Int32.ofInt sp).toNatClampNeg (Int32.ofInt dp).toNatClampNeg (Int32.ofInt n).toNatClampNeg k)) = cell at X' step
      have hheap : ((T.setVm vm').setCell (ra ε b) cell).heap = H.setIfInBounds (ra ε b) cell := by rw [← hT]; rfl
      have hR' : RelH ε z (cpV v a sp.toNat b dp.toNat n.toNat) (H.setIfInBounds (ra ε b) cell) := by
        refine hR.set hb rfl (by simp) (fun q hq => by simp [Array.getElem?_setIfInBounds, Ne.symm hq]) (Or.inr ⟨by rw [hzb]; unfold aT; omega, ?_⟩) (fun x hx => ⟨rfl, rfl, fun _ => rfl, fun _ => rfl, fun k => by unfold cpV; rw [if_neg (fun q => hx q.1)]⟩) rfl rfl (fun k => by
          unfold cpV
          split
          · exact hR.2.2.2.2.1 _ _
          · exact hR.2.2.2.2.1 _ _)
        rw [hzb]
        have : (H.setIfInBounds (ra ε b) cell)[ra ε b]? = some cell := by simp [Array.getElem?_setIfInBounds, hlt]
        rw [this, ← hcell]
        refine congrArg (fun f => some (arrV (eC ε 100) (zl z b) f)) (funext fun k => ?_)
        rw [sv_i (by rw [hzb]; rfl), ofI_nat gs, ofI_nat gd, ofI_nat gn]
        unfold va_cpy cpV
        by_cases q : dp.toNat ≤ k ∧ k < dp.toNat + n.toNat
        · rw [if_pos q, if_pos ⟨rfl, q⟩]
        · rw [if_neg q, if_neg (fun h => q h.2)]
      obtain ⟨t, a1, b1⟩ := K.2 _ _ ls hR' (fun q hq => by
        rcases List.mem_append.mp hq with h | h
        · exact hL q h
        · obtain ⟨z9, -, hz9⟩ := List.mem_map.mp h
          rw [← hz9]
          show eB ε ≤ ra ε b
          unfold ra
          omega) hl gL RG.nil _ hheap X'
      exact ⟨t, step t a1, b1⟩
    · exact K.elim
  · exact K.elim
theorem sn_max (C : Cx ε p R s m args meth c j d) {i : Nat} (hw : Cond.methodLink (on (ow j)) i Lib.Math.max.name ∈ lw_tbl) (hws : Cond.static Lib.Math.max.name ∈ lw_tbl) (hwi : Cond.initialized "java/lang/Math" ∈ lw_tbl) (hwc : Cond.code Lib.Math.max.name Lib.Math.max.code 2 (some .int) ∈ lw_tbl) (h0 : zn z0 ≤ zn z ∧ zs z0 ≤ zs z) (hd : decode (bc j) pc = .ok (.invokestatic i, 3)) (K : Nx ε p l e R s m args below meth c Tg j z0 (pc + 3) (act .d2f L S z v)) : Wx ε p l e R s m args below meth c Tg j z0 pc L S z v := by
  unfold act at K
  dsimp only at K
  split at K
  · rename_i y x r
    split at K
    · rename_i hs
      intro H locs ls hR hL hl gL gS
      have gx := gS.tl.hd
      have gy := gS.hd
      have hmx : rg (max x y) := by unfold rg at *; omega
      have K1 := K.2 H locs ls hR hL hl gL (RG.cons hmx gS.tl.tl)
      have hr := K.1
      have := sh4_cat (ε := ε) hs
      have hlo := C.2.2.2.2.2.2
      have hfr := C.2.2.2.2.2.1
      refine va_mmax C.1.1 C.1.2.1 (by rw [C.1.2.2.1]; exact hl.1.symm) C.2.1 (C.2.2.1 _ hw rfl) (C.2.2.1 _ hws rfl) (C.2.2.1 _ hwi rfl) (C.2.2.1 _ hwc rfl) (by omega) (by omega) (by omega) (by omega) hd ?_
      rw [List.map_cons, show cv ε (.inl (max x y)) = Value.int (Int32.ofInt (max x y)) from rfl] at K1
      by_cases q : x < y
      · rw [if_pos ((ofI_lt gx gy).mpr q)]
        rwa [show max x y = y by omega] at K1
      · rw [if_neg (fun h => q ((ofI_lt gx gy).mp h))]
        rwa [show max x y = x by omega] at K1
    · exact K.elim
  · exact K.elim
theorem sn_min (C : Cx ε p R s m args meth c j d) {i : Nat} (hw : Cond.methodLink (on (ow j)) i Lib.Math.min.name ∈ lw_tbl) (hws : Cond.static Lib.Math.min.name ∈ lw_tbl) (hwi : Cond.initialized "java/lang/Math" ∈ lw_tbl) (hwc : Cond.code Lib.Math.min.name Lib.Math.min.code 2 (some .int) ∈ lw_tbl) (h0 : zn z0 ≤ zn z ∧ zs z0 ≤ zs z) (hd : decode (bc j) pc = .ok (.invokestatic i, 3)) (K : Nx ε p l e R s m args below meth c Tg j z0 (pc + 3) (act .d2i L S z v)) : Wx ε p l e R s m args below meth c Tg j z0 pc L S z v := by
  unfold act at K
  dsimp only at K
  split at K
  · rename_i y x r
    split at K
    · rename_i hs
      intro H locs ls hR hL hl gL gS
      have gx := gS.tl.hd
      have gy := gS.hd
      have hmx : rg (min x y) := by unfold rg at *; omega
      have K1 := K.2 H locs ls hR hL hl gL (RG.cons hmx gS.tl.tl)
      have hr := K.1
      have := sh4_cat (ε := ε) hs
      have hlo := C.2.2.2.2.2.2
      have hfr := C.2.2.2.2.2.1
      refine va_mmin C.1.1 C.1.2.1 (by rw [C.1.2.2.1]; exact hl.1.symm) C.2.1 (C.2.2.1 _ hw rfl) (C.2.2.1 _ hws rfl) (C.2.2.1 _ hwi rfl) (C.2.2.1 _ hwc rfl) (by omega) (by omega) (by omega) (by omega) hd ?_
      rw [List.map_cons, show cv ε (.inl (min x y)) = Value.int (Int32.ofInt (min x y)) from rfl] at K1
      have e1 := ofI_lt gx gy
      have e2 := ofI_lt gy gx
      have e3 := ofI_le gx gy
      have e4 := ofI_le gy gx
      split
      · rename_i q
        first
          | (have q2 := e2.mp q; rwa [show min x y = y by omega] at K1)
          | (have q2 := e1.mp q; rwa [show min x y = x by omega] at K1)
          | (have q2 := e3.mp q; rwa [show min x y = x by omega] at K1)
          | (have q2 := e4.mp q; rwa [show min x y = y by omega] at K1)
      · rename_i q
        first
          | (have q2 : ¬ y < x := fun h => q (e2.mpr h); rwa [show min x y = x by omega] at K1)
          | (have q2 : ¬ x < y := fun h => q (e1.mpr h); rwa [show min x y = y by omega] at K1)
          | (have q2 : ¬ x ≤ y := fun h => q (e3.mpr h); rwa [show min x y = y by omega] at K1)
          | (have q2 : ¬ y ≤ x := fun h => q (e4.mpr h); rwa [show min x y = x by omega] at K1)
    · exact K.elim
  · exact K.elim
theorem sn_abs (C : Cx ε p R s m args meth c j d) {i : Nat} (hw : Cond.methodLink (on (ow j)) i Lib.Math.abs.name ∈ lw_tbl) (hws : Cond.static Lib.Math.abs.name ∈ lw_tbl) (hwi : Cond.initialized "java/lang/Math" ∈ lw_tbl) (hwc : Cond.code Lib.Math.abs.name Lib.Math.abs.code 1 (some .int) ∈ lw_tbl) (h0 : zn z0 ≤ zn z ∧ zs z0 ≤ zs z) (hd : decode (bc j) pc = .ok (.invokestatic i, 3)) (K : Nx ε p l e R s m args below meth c Tg j z0 (pc + 3) (act .d2l L S z v)) : Wx ε p l e R s m args below meth c Tg j z0 pc L S z v := by
  unfold act at K
  dsimp only at K
  split at K
  · rename_i x r
    split at K
    · rename_i hs
      intro H locs ls hR hL hl gL gS
      have gx := gS.hd
      have hmx : rg (if 0 ≤ x then x else wr (0 - x)) := by
        split
        · exact gx
        · exact rg_wr _
      have K1 := K.2 H locs ls hR hL hl gL (RG.cons hmx gS.tl)
      have hr := K.1
      have := sh4_cat (ε := ε) hs
      have hlo := C.2.2.2.2.2.2
      have hfr := C.2.2.2.2.2.1
      refine va_mabs C.1.1 C.1.2.1 (by rw [C.1.2.2.1]; exact hl.1.symm) C.2.1 (C.2.2.1 _ hw rfl) (C.2.2.1 _ hws rfl) (C.2.2.1 _ hwi rfl) (C.2.2.1 _ hwc rfl) (by omega) (by omega) (by omega) (by omega) hd ?_
      rw [List.map_cons, show cv ε (.inl (if 0 ≤ x then x else wr (0 - x))) = Value.int (Int32.ofInt (if 0 ≤ x then x else wr (0 - x))) from rfl] at K1
      have e0 : (0 : Int32) ≤ Int32.ofInt x ↔ 0 ≤ x := ofI_le (x := 0) rg0 gx
      by_cases q : 0 ≤ x
      · rw [if_pos (e0.mpr q)]
        rwa [if_pos q] at K1
      · rw [if_neg (fun h => q (e0.mp h))]
        rw [if_neg q, ← ofI_sub] at K1
        exact K1
    · exact K.elim
  · exact K.elim
theorem sn_labs (C : Cx ε p R s m args meth c j d) {i : Nat} (hw : Cond.methodLink (on (ow j)) i Lib.MathLoose.abs_long.x ∈ lw_tbl) (hws : Cond.static Lib.MathLoose.abs_long.x ∈ lw_tbl) (hwi : Cond.initialized "java/lang/Math" ∈ lw_tbl) (hwc : Cond.code Lib.MathLoose.abs_long.x Lib.MathLoose.abs_long.code 2 (some .long) ∈ lw_tbl) (h0 : zn z0 ≤ zn z ∧ zs z0 ≤ zs z) (hd : decode (bc j) pc = .ok (.invokestatic i, 3)) (K : Nx ε p l e R s m args below meth c Tg j z0 (pc + 3) (act .dadd L S z v)) : Wx ε p l e R s m args below meth c Tg j z0 pc L S z v := by
  unfold act at K
  dsimp only at K
  split at K
  · rename_i x r
    split at K
    · rename_i hs
      intro H locs ls hR hL hl gL gS
      have K1 := K.2 H locs ls hR hL hl gL (RG.consR gS.tl)
      have hr := K.1
      have := sh4_cat (ε := ε) hs
      have hlo := C.2.2.2.2.2.2
      have hfr := C.2.2.2.2.2.1
      exact va_mabs_long C.1.1 C.1.2.1 (by rw [C.1.2.2.1]; exact hl.1.symm) C.2.1 (C.2.2.1 _ hw rfl) (C.2.2.1 _ hws rfl) (C.2.2.1 _ hwi rfl) (C.2.2.1 _ hwc rfl) (by omega) (by omega) (by omega) (by omega) hd K1
    · exact K.elim
  · exact K.elim
theorem sn_lmax (C : Cx ε p R s m args meth c j d) {i : Nat} (hw : Cond.methodLink (on (ow j)) i Lib.MathLoose.max_long.x ∈ lw_tbl) (hws : Cond.static Lib.MathLoose.max_long.x ∈ lw_tbl) (hwi : Cond.initialized "java/lang/Math" ∈ lw_tbl) (hwc : Cond.code Lib.MathLoose.max_long.x Lib.MathLoose.max_long.code 4 (some .long) ∈ lw_tbl) (h0 : zn z0 ≤ zn z ∧ zs z0 ≤ zs z) (hd : decode (bc j) pc = .ok (.invokestatic i, 3)) (K : Nx ε p l e R s m args below meth c Tg j z0 (pc + 3) (act .daload L S z v)) : Wx ε p l e R s m args below meth c Tg j z0 pc L S z v := by
  unfold act at K
  dsimp only at K
  split at K
  · rename_i y x r
    split at K
    · rename_i hs
      intro H locs ls hR hL hl gL gS
      have K1 := K.2 H locs ls hR hL hl gL (RG.consR gS.tl.tl)
      have hr := K.1
      have := sh4_cat (ε := ε) hs
      have hlo := C.2.2.2.2.2.2
      have hfr := C.2.2.2.2.2.1
      exact va_mmax_long C.1.1 C.1.2.1 (by rw [C.1.2.2.1]; exact hl.1.symm) C.2.1 (C.2.2.1 _ hw rfl) (C.2.2.1 _ hws rfl) (C.2.2.1 _ hwi rfl) (C.2.2.1 _ hwc rfl) (by omega) (by omega) (by omega) (by omega) hd K1
    · exact K.elim
  · exact K.elim
end SM
