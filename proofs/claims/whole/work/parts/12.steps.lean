/-! ===== one instruction of the small machine is one of the JVM ===== -/
/-- what holds in method j, called at depth d + 1 -/
def Cx (ε : xE) (p : Program) (R : Room) (s : State) (m : MethodId) (args : Array Value) (meth : Method) (c : Code) (j d : Nat) : Prop :=
  (p.tables.exec = Jvm.exec ∧ c.code = bc j ∧ c.maxLocals = ml j ∧ meth.sig.returnType = rt j ∧ meth.locks = false) ∧ s.vm.findClass (on (ow j)) = some m.cls ∧ (∀ w ∈ lw_tbl, goodWord w = true → w.before args s = true) ∧ Tab ε s ∧ ((yn j).name = "<init>" → meth.name = "<init>") ∧ d + 1 ≤ R.frames ∧ 64 * d + 128 ≤ R.locals
/-- from a place on the JVM comes to Tg -/
def Wx (ε : xE) (p : Program) (l : Launch) (e : Env) (R : Room) (s : State) (m : MethodId) (args : Array Value) (below : List Frame) (meth : Method) (c : Code) (Tg : State → Prop) (j : Nat) (z0 : xZ) (pc : Nat) (L S : List xv) (z : xZ) (v : xV) : Prop :=
  ∀ (H : Heap) (locs : List Loc) (ls : Array Slot), RelH ε z v H → (∀ q ∈ locs, eB ε ≤ q.base) → LR ε ls (ml j) L → RG L → RG S → W p l e R s m args below meth c H locs (zn z - zn z0) (zs z - zs z0) Tg (F0 m pc ls (S.map (cv ε)))
def Nx (ε : xE) (p : Program) (l : Launch) (e : Env) (R : Room) (s : State) (m : MethodId) (args : Array Value) (below : List Frame) (meth : Method) (c : Code) (Tg : State → Prop) (j : Nat) (z0 : xZ) (nx : Nat) (o : xA) : Prop := match o with
  | some (.inl (L, S, z, v)) => (zn z ≤ zn z0 + R.cells ∧ zs z ≤ zs z0 + R.slots) ∧ Wx ε p l e R s m args below meth c Tg j z0 nx L S z v
  | some (.inr (.inl (t, L, S, z, v))) => Wx ε p l e R s m args below meth c Tg j z0 t L S z v
  | _ => False
theorem rf_or (ε : xE) (a : Nat) : rf ε a = .null ∨ ∃ t, rf ε a = .ref t := by
  unfold rf
  split
  · exact Or.inl rfl
  · split
    · cases eR ε a with
      | none => exact Or.inl rfl
      | some t => exact Or.inr ⟨t, rfl⟩
    · exact Or.inr ⟨_, rfl⟩
theorem rg0 : rg 0 := ⟨by decide, by decide⟩
section SN
variable {ε : xE} {p : Program} {l : Launch} {e : Env} {R : Room} {s : State} {m : MethodId} {args : Array Value} {below : List Frame} {meth : Method} {c : Code} {Tg : State → Prop} {j d : Nat} {z0 : xZ} {pc : Nat} {L S : List xv} {z : xZ} {v : xV}

theorem sn_iadd (C : Cx ε p R s m args meth c j d) (hd : decode (bc j) pc = .ok (.iadd, 1)) (K : Nx ε p l e R s m args below meth c Tg j z0 (pc + 1) (oBin (fun x y => wr (x + y)) L S z v)) : Wx ε p l e R s m args below meth c Tg j z0 pc L S z v := by
  unfold oBin at K
  split at K
  · intro H locs ls hR hL hl gL gS
    refine lv_iadd C.1.1 C.1.2.1 hd ?_
    rw [ofI_add]
    exact K.2 H locs ls hR hL hl gL (RG.cons (rg_wr _) gS.tl.tl)
  · exact K.elim
theorem sn_isub (C : Cx ε p R s m args meth c j d) (hd : decode (bc j) pc = .ok (.isub, 1)) (K : Nx ε p l e R s m args below meth c Tg j z0 (pc + 1) (oBin (fun x y => wr (x - y)) L S z v)) : Wx ε p l e R s m args below meth c Tg j z0 pc L S z v := by
  unfold oBin at K
  split at K
  · intro H locs ls hR hL hl gL gS
    refine lv_isub C.1.1 C.1.2.1 hd ?_
    rw [ofI_sub]
    exact K.2 H locs ls hR hL hl gL (RG.cons (rg_wr _) gS.tl.tl)
  · exact K.elim
theorem sn_imul (C : Cx ε p R s m args meth c j d) (hd : decode (bc j) pc = .ok (.imul, 1)) (K : Nx ε p l e R s m args below meth c Tg j z0 (pc + 1) (oBin (fun x y => wr (x * y)) L S z v)) : Wx ε p l e R s m args below meth c Tg j z0 pc L S z v := by
  unfold oBin at K
  split at K
  · intro H locs ls hR hL hl gL gS
    refine lv_imul C.1.1 C.1.2.1 hd ?_
    rw [ofI_mul]
    exact K.2 H locs ls hR hL hl gL (RG.cons (rg_wr _) gS.tl.tl)
  · exact K.elim
theorem sn_iand (C : Cx ε p R s m args meth c j d) (hd : decode (bc j) pc = .ok (.iand, 1)) (K : Nx ε p l e R s m args below meth c Tg j z0 (pc + 1) (oBin (b32 ((· &&& ·))) L S z v)) : Wx ε p l e R s m args below meth c Tg j z0 pc L S z v := by
  unfold oBin at K
  split at K
  · intro H locs ls hR hL hl gL gS
    refine lv_iand C.1.1 C.1.2.1 hd ?_
    have K1 := K.2 H locs ls hR hL hl gL (RG.cons (rg_b32 _ _ _) gS.tl.tl)
    have e1 := ofI_b32 ((· &&& ·))
    rw [List.map_cons, show cv ε (.inl (b32 ((· &&& ·)) _ _)) = Value.int (Int32.ofInt (b32 ((· &&& ·)) _ _)) from rfl, e1] at K1
    exact K1
  · exact K.elim
theorem sn_ior (C : Cx ε p R s m args meth c j d) (hd : decode (bc j) pc = .ok (.ior, 1)) (K : Nx ε p l e R s m args below meth c Tg j z0 (pc + 1) (oBin (b32 ((· ||| ·))) L S z v)) : Wx ε p l e R s m args below meth c Tg j z0 pc L S z v := by
  unfold oBin at K
  split at K
  · intro H locs ls hR hL hl gL gS
    refine lv_ior C.1.1 C.1.2.1 hd ?_
    have K1 := K.2 H locs ls hR hL hl gL (RG.cons (rg_b32 _ _ _) gS.tl.tl)
    have e1 := ofI_b32 ((· ||| ·))
    rw [List.map_cons, show cv ε (.inl (b32 ((· ||| ·)) _ _)) = Value.int (Int32.ofInt (b32 ((· ||| ·)) _ _)) from rfl, e1] at K1
    exact K1
  · exact K.elim
theorem sn_ixor (C : Cx ε p R s m args meth c j d) (hd : decode (bc j) pc = .ok (.ixor, 1)) (K : Nx ε p l e R s m args below meth c Tg j z0 (pc + 1) (oBin (b32 ((· ^^^ ·))) L S z v)) : Wx ε p l e R s m args below meth c Tg j z0 pc L S z v := by
  unfold oBin at K
  split at K
  · intro H locs ls hR hL hl gL gS
    refine lv_ixor C.1.1 C.1.2.1 hd ?_
    have K1 := K.2 H locs ls hR hL hl gL (RG.cons (rg_b32 _ _ _) gS.tl.tl)
    have e1 := ofI_b32 ((· ^^^ ·))
    rw [List.map_cons, show cv ε (.inl (b32 ((· ^^^ ·)) _ _)) = Value.int (Int32.ofInt (b32 ((· ^^^ ·)) _ _)) from rfl, e1] at K1
    exact K1
  · exact K.elim
theorem sn_ishl (C : Cx ε p R s m args meth c j d) (hd : decode (bc j) pc = .ok (.ishl, 1)) (K : Nx ε p l e R s m args below meth c Tg j z0 (pc + 1) (oBin (b32 (fun x y => x <<< (y &&& 31))) L S z v)) : Wx ε p l e R s m args below meth c Tg j z0 pc L S z v := by
  unfold oBin at K
  split at K
  · intro H locs ls hR hL hl gL gS
    refine lv_ishl C.1.1 C.1.2.1 hd ?_
    have K1 := K.2 H locs ls hR hL hl gL (RG.cons (rg_b32 _ _ _) gS.tl.tl)
    have e1 := ofI_b32 (fun x y => x <<< (y &&& 31))
    rw [List.map_cons, show cv ε (.inl (b32 (fun x y => x <<< (y &&& 31)) _ _)) = Value.int (Int32.ofInt (b32 (fun x y => x <<< (y &&& 31)) _ _)) from rfl, e1] at K1
    exact K1
  · exact K.elim
theorem sn_ishr (C : Cx ε p R s m args meth c j d) (hd : decode (bc j) pc = .ok (.ishr, 1)) (K : Nx ε p l e R s m args below meth c Tg j z0 (pc + 1) (oBin (b32 (fun x y => x >>> (y &&& 31))) L S z v)) : Wx ε p l e R s m args below meth c Tg j z0 pc L S z v := by
  unfold oBin at K
  split at K
  · intro H locs ls hR hL hl gL gS
    refine lv_ishr C.1.1 C.1.2.1 hd ?_
    have K1 := K.2 H locs ls hR hL hl gL (RG.cons (rg_b32 _ _ _) gS.tl.tl)
    have e1 := ofI_b32 (fun x y => x >>> (y &&& 31))
    rw [List.map_cons, show cv ε (.inl (b32 (fun x y => x >>> (y &&& 31)) _ _)) = Value.int (Int32.ofInt (b32 (fun x y => x >>> (y &&& 31)) _ _)) from rfl, e1] at K1
    exact K1
  · exact K.elim
theorem sn_iushr (C : Cx ε p R s m args meth c j d) (hd : decode (bc j) pc = .ok (.iushr, 1)) (K : Nx ε p l e R s m args below meth c Tg j z0 (pc + 1) (oBin (b32 (fun x y => (x.toUInt32 >>> (y.toUInt32 &&& Int32.toUInt32 31)).toInt32)) L S z v)) : Wx ε p l e R s m args below meth c Tg j z0 pc L S z v := by
  unfold oBin at K
  split at K
  · intro H locs ls hR hL hl gL gS
    refine lv_iushr C.1.1 C.1.2.1 hd rfl ?_
    have K1 := K.2 H locs ls hR hL hl gL (RG.cons (rg_b32 _ _ _) gS.tl.tl)
    have e1 := ofI_b32 (fun x y => (x.toUInt32 >>> (y.toUInt32 &&& Int32.toUInt32 31)).toInt32)
    rw [List.map_cons, show cv ε (.inl (b32 (fun x y => (x.toUInt32 >>> (y.toUInt32 &&& Int32.toUInt32 31)).toInt32) _ _)) = Value.int (Int32.ofInt (b32 (fun x y => (x.toUInt32 >>> (y.toUInt32 &&& Int32.toUInt32 31)).toInt32) _ _)) from rfl, e1] at K1
    exact K1
  · exact K.elim
theorem sn_idiv (C : Cx ε p R s m args meth c j d) (hd : decode (bc j) pc = .ok (.idiv, 1)) (K : Nx ε p l e R s m args below meth c Tg j z0 (pc + 1) (act .idiv L S z v)) : Wx ε p l e R s m args below meth c Tg j z0 pc L S z v := by
  unfold act at K
  dsimp only at K
  split at K
  · split at K
    · exact K.elim
    · rename_i hy
      intro H locs ls hR hL hl gL gS
      refine lv_idiv C.1.1 C.1.2.1 hd (fun q => hy ((ofI_inj gS.hd ⟨by decide, by decide⟩).mp (q.trans ofI_zero.symm))) ?_
      rw [ofI_div gS.tl.hd gS.hd]
      exact K.2 H locs ls hR hL hl gL (RG.cons (rg_wr _) gS.tl.tl)
  · exact K.elim
theorem sn_irem (C : Cx ε p R s m args meth c j d) (hd : decode (bc j) pc = .ok (.irem, 1)) (K : Nx ε p l e R s m args below meth c Tg j z0 (pc + 1) (act .irem L S z v)) : Wx ε p l e R s m args below meth c Tg j z0 pc L S z v := by
  unfold act at K
  dsimp only at K
  split at K
  · split at K
    · exact K.elim
    · rename_i hy
      intro H locs ls hR hL hl gL gS
      refine lv_irem C.1.1 C.1.2.1 hd (fun q => hy ((ofI_inj gS.hd ⟨by decide, by decide⟩).mp (q.trans ofI_zero.symm))) ?_
      rw [ofI_rem gS.tl.hd gS.hd]
      exact K.2 H locs ls hR hL hl gL (RG.cons (rg_tmod gS.tl.hd) gS.tl.tl)
  · exact K.elim
theorem sn_ineg (C : Cx ε p R s m args meth c j d) (hd : decode (bc j) pc = .ok (.ineg, 1)) (K : Nx ε p l e R s m args below meth c Tg j z0 (pc + 1) (oUn (fun x => wr (-x)) L S z v)) : Wx ε p l e R s m args below meth c Tg j z0 pc L S z v := by
  unfold oUn at K
  split at K
  · intro H locs ls hR hL hl gL gS
    refine lv_ineg C.1.1 C.1.2.1 hd ?_
    rw [ofI_neg]
    exact K.2 H locs ls hR hL hl gL (RG.cons (rg_wr _) gS.tl)
  · exact K.elim
theorem sn_i2b (C : Cx ε p R s m args meth c j d) (hd : decode (bc j) pc = .ok (.i2b, 1)) (K : Nx ε p l e R s m args below meth c Tg j z0 (pc + 1) (oUn (fun x => (Int32.ofInt x).toInt8.toInt32.toInt) L S z v)) : Wx ε p l e R s m args below meth c Tg j z0 pc L S z v := by
  unfold oUn at K
  split at K
  · intro H locs ls hR hL hl gL gS
    exact lv_i2b C.1.1 C.1.2.1 hd (ofI_toI _).symm (K.2 H locs ls hR hL hl gL (RG.cons (rg_toInt _) gS.tl))
  · exact K.elim
theorem sn_i2c (C : Cx ε p R s m args meth c j d) (hd : decode (bc j) pc = .ok (.i2c, 1)) (K : Nx ε p l e R s m args below meth c Tg j z0 (pc + 1) (oUn (fun x => x % 65536) L S z v)) : Wx ε p l e R s m args below meth c Tg j z0 pc L S z v := by
  unfold oUn at K
  split at K
  · intro H locs ls hR hL hl gL gS
    exact lv_i2c C.1.1 C.1.2.1 hd (ofI_i2c _) (K.2 H locs ls hR hL hl gL (RG.cons (rg_i2c _) gS.tl))
  · exact K.elim
theorem sn_i2l (C : Cx ε p R s m args meth c j d) (hd : decode (bc j) pc = .ok (.i2l, 1)) (K : Nx ε p l e R s m args below meth c Tg j z0 (pc + 1) (act .i2l L S z v)) : Wx ε p l e R s m args below meth c Tg j z0 pc L S z v := by
  unfold act at K
  dsimp only at K
  split at K
  · intro H locs ls hR hL hl gL gS
    exact lv_i2l C.1.1 C.1.2.1 hd rfl (K.2 H locs ls hR hL hl gL (RG.consR gS.tl))
  · exact K.elim
theorem sn_l2i (C : Cx ε p R s m args meth c j d) (hd : decode (bc j) pc = .ok (.l2i, 1)) (K : Nx ε p l e R s m args below meth c Tg j z0 (pc + 1) (act .l2i L S z v)) : Wx ε p l e R s m args below meth c Tg j z0 pc L S z v := by
  unfold act at K
  dsimp only at K
  split at K
  · intro H locs ls hR hL hl gL gS
    exact lv_l2i C.1.1 C.1.2.1 hd (ofI_toI _).symm (K.2 H locs ls hR hL hl gL (RG.cons (rg_toInt _) gS.tl))
  · exact K.elim
theorem sn_ladd (C : Cx ε p R s m args meth c j d) (hd : decode (bc j) pc = .ok (.ladd, 1)) (K : Nx ε p l e R s m args below meth c Tg j z0 (pc + 1) (oBinL (· + ·) L S z v)) : Wx ε p l e R s m args below meth c Tg j z0 pc L S z v := by
  unfold oBinL at K
  split at K
  · intro H locs ls hR hL hl gL gS
    exact lv_ladd C.1.1 C.1.2.1 hd (K.2 H locs ls hR hL hl gL (RG.consR gS.tl.tl))
  · exact K.elim
theorem sn_lsub (C : Cx ε p R s m args meth c j d) (hd : decode (bc j) pc = .ok (.lsub, 1)) (K : Nx ε p l e R s m args below meth c Tg j z0 (pc + 1) (oBinL (· - ·) L S z v)) : Wx ε p l e R s m args below meth c Tg j z0 pc L S z v := by
  unfold oBinL at K
  split at K
  · intro H locs ls hR hL hl gL gS
    exact lv_lsub C.1.1 C.1.2.1 hd (K.2 H locs ls hR hL hl gL (RG.consR gS.tl.tl))
  · exact K.elim
theorem sn_lmul (C : Cx ε p R s m args meth c j d) (hd : decode (bc j) pc = .ok (.lmul, 1)) (K : Nx ε p l e R s m args below meth c Tg j z0 (pc + 1) (oBinL (· * ·) L S z v)) : Wx ε p l e R s m args below meth c Tg j z0 pc L S z v := by
  unfold oBinL at K
  split at K
  · intro H locs ls hR hL hl gL gS
    exact lv_lmul C.1.1 C.1.2.1 hd (K.2 H locs ls hR hL hl gL (RG.consR gS.tl.tl))
  · exact K.elim
theorem sn_land (C : Cx ε p R s m args meth c j d) (hd : decode (bc j) pc = .ok (.land, 1)) (K : Nx ε p l e R s m args below meth c Tg j z0 (pc + 1) (oBinL (· &&& ·) L S z v)) : Wx ε p l e R s m args below meth c Tg j z0 pc L S z v := by
  unfold oBinL at K
  split at K
  · intro H locs ls hR hL hl gL gS
    exact lv_land C.1.1 C.1.2.1 hd (K.2 H locs ls hR hL hl gL (RG.consR gS.tl.tl))
  · exact K.elim
theorem sn_lor (C : Cx ε p R s m args meth c j d) (hd : decode (bc j) pc = .ok (.lor, 1)) (K : Nx ε p l e R s m args below meth c Tg j z0 (pc + 1) (oBinL (· ||| ·) L S z v)) : Wx ε p l e R s m args below meth c Tg j z0 pc L S z v := by
  unfold oBinL at K
  split at K
  · intro H locs ls hR hL hl gL gS
    exact lv_lor C.1.1 C.1.2.1 hd (K.2 H locs ls hR hL hl gL (RG.consR gS.tl.tl))
  · exact K.elim
theorem sn_lxor (C : Cx ε p R s m args meth c j d) (hd : decode (bc j) pc = .ok (.lxor, 1)) (K : Nx ε p l e R s m args below meth c Tg j z0 (pc + 1) (oBinL (· ^^^ ·) L S z v)) : Wx ε p l e R s m args below meth c Tg j z0 pc L S z v := by
  unfold oBinL at K
  split at K
  · intro H locs ls hR hL hl gL gS
    exact lv_lxor C.1.1 C.1.2.1 hd (K.2 H locs ls hR hL hl gL (RG.consR gS.tl.tl))
  · exact K.elim
theorem sn_ldiv (C : Cx ε p R s m args meth c j d) (hd : decode (bc j) pc = .ok (.ldiv, 1)) (K : Nx ε p l e R s m args below meth c Tg j z0 (pc + 1) (act .ldiv L S z v)) : Wx ε p l e R s m args below meth c Tg j z0 pc L S z v := by
  unfold act at K
  dsimp only at K
  split at K
  · split at K
    · exact K.elim
    · rename_i hy
      intro H locs ls hR hL hl gL gS
      exact lv_ldiv C.1.1 C.1.2.1 hd hy (K.2 H locs ls hR hL hl gL (RG.consR gS.tl.tl))
  · exact K.elim
theorem sn_lrem (C : Cx ε p R s m args meth c j d) (hd : decode (bc j) pc = .ok (.lrem, 1)) (K : Nx ε p l e R s m args below meth c Tg j z0 (pc + 1) (act .lrem L S z v)) : Wx ε p l e R s m args below meth c Tg j z0 pc L S z v := by
  unfold act at K
  dsimp only at K
  split at K
  · split at K
    · exact K.elim
    · rename_i hy
      intro H locs ls hR hL hl gL gS
      exact lv_lrem C.1.1 C.1.2.1 hd hy (K.2 H locs ls hR hL hl gL (RG.consR gS.tl.tl))
  · exact K.elim
theorem sn_lneg (C : Cx ε p R s m args meth c j d) (hd : decode (bc j) pc = .ok (.lneg, 1)) (K : Nx ε p l e R s m args below meth c Tg j z0 (pc + 1) (act .lneg L S z v)) : Wx ε p l e R s m args below meth c Tg j z0 pc L S z v := by
  unfold act at K
  dsimp only at K
  split at K
  · intro H locs ls hR hL hl gL gS
    exact lv_lneg C.1.1 C.1.2.1 hd (K.2 H locs ls hR hL hl gL (RG.consR gS.tl))
  · exact K.elim
theorem sn_lshl (C : Cx ε p R s m args meth c j d) (hd : decode (bc j) pc = .ok (.lshl, 1)) (K : Nx ε p l e R s m args below meth c Tg j z0 (pc + 1) (oShL (fun x y => x <<< (y.toInt64 &&& 63)) L S z v)) : Wx ε p l e R s m args below meth c Tg j z0 pc L S z v := by
  unfold oShL at K
  split at K
  · intro H locs ls hR hL hl gL gS
    exact lv_lshl C.1.1 C.1.2.1 hd rfl (K.2 H locs ls hR hL hl gL (RG.consR gS.tl.tl))
  · exact K.elim
theorem sn_lushr (C : Cx ε p R s m args meth c j d) (hd : decode (bc j) pc = .ok (.lushr, 1)) (K : Nx ε p l e R s m args below meth c Tg j z0 (pc + 1) (oShL (fun x y => (x.toUInt64 >>> (y.toInt64.toUInt64 &&& Int64.toUInt64 63)).toInt64) L S z v)) : Wx ε p l e R s m args below meth c Tg j z0 pc L S z v := by
  unfold oShL at K
  split at K
  · intro H locs ls hR hL hl gL gS
    exact lv_lushr C.1.1 C.1.2.1 hd rfl (K.2 H locs ls hR hL hl gL (RG.consR gS.tl.tl))
  · exact K.elim
theorem sn_lcmp (C : Cx ε p R s m args meth c j d) (hd : decode (bc j) pc = .ok (.lcmp, 1)) (K : Nx ε p l e R s m args below meth c Tg j z0 (pc + 1) (act .lcmp L S z v)) : Wx ε p l e R s m args below meth c Tg j z0 pc L S z v := by
  unfold act at K
  dsimp only at K
  split at K
  · intro H locs ls hR hL hl gL gS
    refine W.lcmp C.1.1 C.1.2.1 hd ?_
    have K1 := K.2 H locs ls hR hL hl gL (RG.cons (rg_toInt _) gS.tl.tl)
    rw [List.map_cons, show cv ε (.inl (lg_cmp _ _).toInt) = Value.int (Int32.ofInt (lg_cmp _ _).toInt) from rfl, ofI_toI] at K1
    exact K1
  · exact K.elim
theorem sn_dup (C : Cx ε p R s m args meth c j d) (hd : decode (bc j) pc = .ok (.dup, 1)) (K : Nx ε p l e R s m args below meth c Tg j z0 (pc + 1) (act .dup L S z v)) : Wx ε p l e R s m args below meth c Tg j z0 pc L S z v := by
  unfold act at K
  dsimp only at K
  split at K
  · intro H locs ls hR hL hl gL gS
    exact lv_dup C.1.1 C.1.2.1 hd rfl (K.2 H locs ls hR hL hl gL (RG.cons gS.hd gS))
  · intro H locs ls hR hL hl gL gS
    exact lv_dup C.1.1 C.1.2.1 hd (rf_cat _ _) (K.2 H locs ls hR hL hl gL (RG.consR gS))
  · exact K.elim
theorem sn_dup2 (C : Cx ε p R s m args meth c j d) (hd : decode (bc j) pc = .ok (.dup2, 1)) (K : Nx ε p l e R s m args below meth c Tg j z0 (pc + 1) (act .dup2 L S z v)) : Wx ε p l e R s m args below meth c Tg j z0 pc L S z v := by
  unfold act at K
  dsimp only at K
  split at K
  · intro H locs ls hR hL hl gL gS
    exact lv_dup2_11 C.1.1 C.1.2.1 hd rfl (rf_cat _ _) (K.2 H locs ls hR hL hl gL (RG.cons gS.hd (RG.consR gS)))
  · exact K.elim
theorem sn_pop (C : Cx ε p R s m args meth c j d) (hd : decode (bc j) pc = .ok (.pop, 1)) (K : Nx ε p l e R s m args below meth c Tg j z0 (pc + 1) (act .pop L S z v)) : Wx ε p l e R s m args below meth c Tg j z0 pc L S z v := by
  unfold act at K
  dsimp only at K
  split at K
  · intro H locs ls hR hL hl gL gS
    exact lv_pop C.1.1 C.1.2.1 hd rfl (K.2 H locs ls hR hL hl gL gS.tl)
  · intro H locs ls hR hL hl gL gS
    exact lv_pop C.1.1 C.1.2.1 hd (rf_cat _ _) (K.2 H locs ls hR hL hl gL gS.tl)
  · exact K.elim
theorem sn_iload (C : Cx ε p R s m args meth c j d) {k : Nat} (hd : decode (bc j) pc = .ok (.iload k, 2)) (K : Nx ε p l e R s m args below meth c Tg j z0 (pc + 2) (oLoad k L S z v)) : Wx ε p l e R s m args below meth c Tg j z0 pc L S z v := by
  unfold oLoad at K
  split at K
  · rename_i x hk
    intro H locs ls hR hL hl gL gS
    exact lv_iload C.1.1 C.1.2.1 hd (hl.get hk (by simp)) (K.2 H locs ls hR hL hl gL (RG.cons (gL _ x hk) gS))
  · exact K.elim
theorem sn_iload_n (C : Cx ε p R s m args meth c j d) {k : Fin 4} (hd : decode (bc j) pc = .ok (.iload_n k, 1)) (K : Nx ε p l e R s m args below meth c Tg j z0 (pc + 1) (oLoad k.val L S z v)) : Wx ε p l e R s m args below meth c Tg j z0 pc L S z v := by
  unfold oLoad at K
  split at K
  · rename_i x hk
    intro H locs ls hR hL hl gL gS
    exact lv_iload_n C.1.1 C.1.2.1 hd rfl (hl.get hk (by simp)) (K.2 H locs ls hR hL hl gL (RG.cons (gL _ x hk) gS))
  · exact K.elim
theorem sn_lload (C : Cx ε p R s m args meth c j d) {k : Nat} (hd : decode (bc j) pc = .ok (.lload k, 2)) (K : Nx ε p l e R s m args below meth c Tg j z0 (pc + 2) (oLoadL k L S z v)) : Wx ε p l e R s m args below meth c Tg j z0 pc L S z v := by
  unfold oLoadL at K
  split at K
  · rename_i x hk
    intro H locs ls hR hL hl gL gS
    exact lv_lload C.1.1 C.1.2.1 hd (hl.get hk (by simp)) (K.2 H locs ls hR hL hl gL (RG.consR gS))
  · exact K.elim
theorem sn_lload_n (C : Cx ε p R s m args meth c j d) {k : Fin 4} (hd : decode (bc j) pc = .ok (.lload_n k, 1)) (K : Nx ε p l e R s m args below meth c Tg j z0 (pc + 1) (oLoadL k.val L S z v)) : Wx ε p l e R s m args below meth c Tg j z0 pc L S z v := by
  unfold oLoadL at K
  split at K
  · rename_i x hk
    intro H locs ls hR hL hl gL gS
    exact lv_lload_n C.1.1 C.1.2.1 hd rfl (hl.get hk (by simp)) (K.2 H locs ls hR hL hl gL (RG.consR gS))
  · exact K.elim
theorem sn_aload (C : Cx ε p R s m args meth c j d) {k : Nat} (hd : decode (bc j) pc = .ok (.aload k, 2)) (K : Nx ε p l e R s m args below meth c Tg j z0 (pc + 2) (oLoadA k L S z v)) : Wx ε p l e R s m args below meth c Tg j z0 pc L S z v := by
  unfold oLoadA at K
  split at K
  · rename_i x hk
    intro H locs ls hR hL hl gL gS
    have hg := hl.get hk (by simp)
    have K1 := K.2 H locs ls hR hL hl gL (RG.consR gS)
    rw [List.map_cons] at K1
    have e0 : cv ε (.inr (.inl x)) = rf ε x := rfl
    rw [e0] at hg K1
    rcases rf_or ε x with q | ⟨t, q⟩
    · rw [q] at hg K1
      exact lv_aloadN C.1.1 C.1.2.1 hd hg K1
    · rw [q] at hg K1
      exact lv_aload C.1.1 C.1.2.1 hd hg K1
  · exact K.elim
theorem sn_aload_n (C : Cx ε p R s m args meth c j d) {k : Fin 4} (hd : decode (bc j) pc = .ok (.aload_n k, 1)) (K : Nx ε p l e R s m args below meth c Tg j z0 (pc + 1) (oLoadA k.val L S z v)) : Wx ε p l e R s m args below meth c Tg j z0 pc L S z v := by
  unfold oLoadA at K
  split at K
  · rename_i x hk
    intro H locs ls hR hL hl gL gS
    have hg := hl.get hk (by simp)
    have K1 := K.2 H locs ls hR hL hl gL (RG.consR gS)
    rw [List.map_cons] at K1
    have e0 : cv ε (.inr (.inl x)) = rf ε x := rfl
    rw [e0] at hg K1
    rcases rf_or ε x with q | ⟨t, q⟩
    · rw [q] at hg K1
      exact lv_aload_nN C.1.1 C.1.2.1 hd rfl hg K1
    · rw [q] at hg K1
      exact lv_aload_n C.1.1 C.1.2.1 hd rfl hg K1
  · exact K.elim
theorem sn_istore (C : Cx ε p R s m args meth c j d) {k : Nat} (hd : decode (bc j) pc = .ok (.istore k, 2)) (hk : k < ml j) (K : Nx ε p l e R s m args below meth c Tg j z0 (pc + 2) (oStore k L S z v)) : Wx ε p l e R s m args below meth c Tg j z0 pc L S z v := by
  unfold oStore at K
  split at K
  · rename_i x r
    intro H locs ls hR hL hl gL gS
    exact lv_istore C.1.1 C.1.2.1 hd hl hk rfl (fun ls' h' => K.2 H locs ls' hR hL (LR.sto (x := .inl x) h') (gL.sto (fun y q => by cases q; exact gS.hd)) gS.tl)
  · exact K.elim
theorem sn_istore_n (C : Cx ε p R s m args meth c j d) {k : Fin 4} (hd : decode (bc j) pc = .ok (.istore_n k, 1)) (hk : k.val < ml j) (K : Nx ε p l e R s m args below meth c Tg j z0 (pc + 1) (oStore k.val L S z v)) : Wx ε p l e R s m args below meth c Tg j z0 pc L S z v := by
  unfold oStore at K
  split at K
  · rename_i x r
    intro H locs ls hR hL hl gL gS
    exact lv_istore_n C.1.1 C.1.2.1 hd rfl hl hk rfl (fun ls' h' => K.2 H locs ls' hR hL (LR.sto (x := .inl x) h') (gL.sto (fun y q => by cases q; exact gS.hd)) gS.tl)
  · exact K.elim
theorem sn_lstore (C : Cx ε p R s m args meth c j d) {k : Nat} (hd : decode (bc j) pc = .ok (.lstore k, 2)) (hk : k + 1 < ml j) (K : Nx ε p l e R s m args below meth c Tg j z0 (pc + 2) (oStoreL k L S z v)) : Wx ε p l e R s m args below meth c Tg j z0 pc L S z v := by
  unfold oStoreL at K
  split at K
  · rename_i x r
    intro H locs ls hR hL hl gL gS
    exact lv_lstore C.1.1 C.1.2.1 hd hl hk rfl (fun ls' h' => K.2 H locs ls' hR hL (LR.stoL (x := .inr (.inr (.inl x))) h') (gL.stoL (fun y q => by cases q)) gS.tl)
  · exact K.elim
theorem sn_lstore_n (C : Cx ε p R s m args meth c j d) {k : Fin 4} (hd : decode (bc j) pc = .ok (.lstore_n k, 1)) (hk : k.val + 1 < ml j) (K : Nx ε p l e R s m args below meth c Tg j z0 (pc + 1) (oStoreL k.val L S z v)) : Wx ε p l e R s m args below meth c Tg j z0 pc L S z v := by
  unfold oStoreL at K
  split at K
  · rename_i x r
    intro H locs ls hR hL hl gL gS
    exact lv_lstore_n C.1.1 C.1.2.1 hd rfl hl hk rfl (fun ls' h' => K.2 H locs ls' hR hL (LR.stoL (x := .inr (.inr (.inl x))) h') (gL.stoL (fun y q => by cases q)) gS.tl)
  · exact K.elim
theorem sn_astore (C : Cx ε p R s m args meth c j d) {k : Nat} (hd : decode (bc j) pc = .ok (.astore k, 2)) (hk : k < ml j) (K : Nx ε p l e R s m args below meth c Tg j z0 (pc + 2) (oStoreA k L S z v)) : Wx ε p l e R s m args below meth c Tg j z0 pc L S z v := by
  unfold oStoreA at K
  split at K
  · rename_i x r
    intro H locs ls hR hL hl gL gS
    have K1 := fun (ls' : Array Slot) h' => K.2 H locs ls' hR hL (LR.sto (x := .inr (.inl x)) h') (gL.sto (fun y q => by cases q)) gS.tl
    rw [List.map_cons]
    have e0 : cv ε (.inr (.inl x)) = rf ε x := rfl
    rw [e0] at K1 ⊢
    rcases rf_or ε x with q | ⟨t, q⟩
    · rw [q] at K1 ⊢
      exact lv_astoreN C.1.1 C.1.2.1 hd hl hk rfl K1
    · rw [q] at K1 ⊢
      exact lv_astore C.1.1 C.1.2.1 hd hl hk rfl K1
  · exact K.elim
theorem sn_astore_n (C : Cx ε p R s m args meth c j d) {k : Fin 4} (hd : decode (bc j) pc = .ok (.astore_n k, 1)) (hk : k.val < ml j) (K : Nx ε p l e R s m args below meth c Tg j z0 (pc + 1) (oStoreA k.val L S z v)) : Wx ε p l e R s m args below meth c Tg j z0 pc L S z v := by
  unfold oStoreA at K
  split at K
  · rename_i x r
    intro H locs ls hR hL hl gL gS
    have K1 := fun (ls' : Array Slot) h' => K.2 H locs ls' hR hL (LR.sto (x := .inr (.inl x)) h') (gL.sto (fun y q => by cases q)) gS.tl
    rw [List.map_cons]
    have e0 : cv ε (.inr (.inl x)) = rf ε x := rfl
    rw [e0] at K1 ⊢
    rcases rf_or ε x with q | ⟨t, q⟩
    · rw [q] at K1 ⊢
      exact lv_astore_nN C.1.1 C.1.2.1 hd rfl hl hk rfl K1
    · rw [q] at K1 ⊢
      exact lv_astore_n C.1.1 C.1.2.1 hd rfl hl hk rfl K1
  · exact K.elim
theorem sn_iinc (C : Cx ε p R s m args meth c j d) {k : Nat} {n : Int} (hd : decode (bc j) pc = .ok (.iinc k n, 3)) (hk : k < ml j) (K : Nx ε p l e R s m args below meth c Tg j z0 (pc + 3) (oInc k n L S z v)) : Wx ε p l e R s m args below meth c Tg j z0 pc L S z v := by
  unfold oInc at K
  split at K
  · rename_i x hx
    intro H locs ls hR hL hl gL gS
    obtain ⟨q, hq⟩ := List.getElem?_of_mem (pr_mem.mpr ⟨k, _, by rw [Nat.zero_add], hx, by simp⟩ : (k, cv ε (.inl x)) ∈ pr ε L 0)
    exact lv_iinc C.1.1 C.1.2.1 hd hl hq (ofI_add x n) hk rfl (fun ls' h' => K.2 H locs ls' hR hL (LR.sto (x := .inl (wr (x + n))) h') (gL.sto (fun y q => by cases q; exact rg_wr _)) gS)
  · exact K.elim
theorem sn_iconst (C : Cx ε p R s m args meth c j d) {n : Int} (hd : decode (bc j) pc = .ok (.iconst n, 1)) (hn : rg n) (K : Nx ε p l e R s m args below meth c Tg j z0 (pc + 1) (cA1 L (.inl n :: S) z v)) : Wx ε p l e R s m args below meth c Tg j z0 pc L S z v := by
  intro H locs ls hR hL hl gL gS
  exact lv_iconst C.1.1 C.1.2.1 hd rfl (K.2 H locs ls hR hL hl gL (RG.cons hn gS))
theorem sn_bipush (C : Cx ε p R s m args meth c j d) {n : Int} (hd : decode (bc j) pc = .ok (.bipush n, 2)) (hn : -128 ≤ n ∧ n < 128) (K : Nx ε p l e R s m args below meth c Tg j z0 (pc + 2) (cA1 L (.inl n :: S) z v)) : Wx ε p l e R s m args below meth c Tg j z0 pc L S z v := by
  intro H locs ls hR hL hl gL gS
  refine lv_bipush C.1.1 C.1.2.1 hd ?_ (K.2 H locs ls hR hL hl gL (RG.cons ⟨by omega, by omega⟩ gS))
  apply Int32.toInt_inj.mp
  rw [toI_of ⟨by omega, by omega⟩, Int8.toInt_toInt32, Int8.toInt_ofInt]
  show Int.bmod n 256 = n
  unfold Int.bmod
  dsimp only
  split <;> omega
theorem sn_sipush (C : Cx ε p R s m args meth c j d) {n : Int} (hd : decode (bc j) pc = .ok (.sipush n, 3)) (hn : -32768 ≤ n ∧ n < 32768) (K : Nx ε p l e R s m args below meth c Tg j z0 (pc + 3) (cA1 L (.inl n :: S) z v)) : Wx ε p l e R s m args below meth c Tg j z0 pc L S z v := by
  intro H locs ls hR hL hl gL gS
  refine lv_sipush C.1.1 C.1.2.1 hd ?_ (K.2 H locs ls hR hL hl gL (RG.cons ⟨by omega, by omega⟩ gS))
  apply Int32.toInt_inj.mp
  rw [toI_of ⟨by omega, by omega⟩, Int16.toInt_toInt32, Int16.toInt_ofInt]
  show Int.bmod n 65536 = n
  unfold Int.bmod
  dsimp only
  split <;> omega
theorem sn_lconst (C : Cx ε p R s m args meth c j d) {n : Fin 2} (hd : decode (bc j) pc = .ok (.lconst n, 1)) (K : Nx ε p l e R s m args below meth c Tg j z0 (pc + 1) (cA1 L (.inr (.inr (.inl (Int64.ofInt ((n.val : Nat) : Int)))) :: S) z v)) : Wx ε p l e R s m args below meth c Tg j z0 pc L S z v := by
  intro H locs ls hR hL hl gL gS
  exact lv_lconst C.1.1 C.1.2.1 hd (by match n with | 0 => rfl | 1 => rfl) (K.2 H locs ls hR hL hl gL (RG.consR gS))
theorem sn_ldc (C : Cx ε p R s m args meth c j d) {i : Nat} {n : Int} (hd : decode (bc j) pc = .ok (.ldc i, 2)) (hw : (Cond.constant (on (ow j)) i (Int32.ofInt n)).before args s = true) (hn : rg n) (K : Nx ε p l e R s m args below meth c Tg j z0 (pc + 2) (cA1 L (.inl n :: S) z v)) : Wx ε p l e R s m args below meth c Tg j z0 pc L S z v := by
  intro H locs ls hR hL hl gL gS
  exact lv_ldc C.1.1 C.1.2.1 C.2.1 hw hd (K.2 H locs ls hR hL hl gL (RG.cons hn gS))
theorem sn_ldc_w (C : Cx ε p R s m args meth c j d) {i : Nat} {n : Int} (hd : decode (bc j) pc = .ok (.ldc_w i, 3)) (hw : (Cond.constant (on (ow j)) i (Int32.ofInt n)).before args s = true) (hn : rg n) (K : Nx ε p l e R s m args below meth c Tg j z0 (pc + 3) (cA1 L (.inl n :: S) z v)) : Wx ε p l e R s m args below meth c Tg j z0 pc L S z v := by
  intro H locs ls hR hL hl gL gS
  exact lv_ldcw C.1.1 C.1.2.1 C.2.1 hw hd (K.2 H locs ls hR hL hl gL (RG.cons hn gS))
theorem sn_ldc2 (C : Cx ε p R s m args meth c j d) {i : Nat} {n : Int} (hd : decode (bc j) pc = .ok (.ldc2_w i, 3)) (hw : (Cond.constantLong (on (ow j)) i (Int64.ofInt n)).before args s = true) (K : Nx ε p l e R s m args below meth c Tg j z0 (pc + 3) (cA1 L (.inr (.inr (.inl (Int64.ofInt n))) :: S) z v)) : Wx ε p l e R s m args below meth c Tg j z0 pc L S z v := by
  intro H locs ls hR hL hl gL gS
  exact lv_ldc2 C.1.1 C.1.2.1 C.2.1 hw hd (K.2 H locs ls hR hL hl gL (RG.consR gS))
theorem sn_ldcS (C : Cx ε p R s m args meth c j d) {i a : Nat} (hd : decode (bc j) pc = .ok (.ldc i, 2)) {tx : String} (hw : ∃ r, rf ε a = .ref r ∧ vk_R (on (ow j)) i tx r s) (K : Nx ε p l e R s m args below meth c Tg j z0 (pc + 2) (cA1 L (.inr (.inl a) :: S) z v)) : Wx ε p l e R s m args below meth c Tg j z0 pc L S z v := by
  obtain ⟨r, r1, r2⟩ := hw
  intro H locs ls hR hL hl gL gS
  have K1 := K.2 H locs ls hR hL hl gL (RG.consR gS)
  rw [List.map_cons, show cv ε (.inr (.inl a)) = rf ε a from rfl, r1] at K1
  exact va_ldcS C.1.1 C.1.2.1 C.2.1 r2 hd K1
theorem sn_goto (C : Cx ε p R s m args meth c j d) {o : Int} (hd : decode (bc j) pc = .ok (.goto o, 3)) (ho : 0 ≤ (pc : Int) + o) (K : Nx ε p l e R s m args below meth c Tg j z0 (pc + 3) (jA1 (pc + o) L S z v)) : Wx ε p l e R s m args below meth c Tg j z0 pc L S z v := by
  intro H locs ls hR hL hl gL gS
  exact lv_goto C.1.1 C.1.2.1 hd (Int.toNat_of_nonneg ho).symm (K H locs ls hR hL hl gL gS)
theorem sn_if_eq (C : Cx ε p R s m args meth c j d) {o : Int} {x : Int} {r : List xv} (hd : decode (bc j) pc = .ok (.ifCond .eq o, 3)) (ho : 0 ≤ (pc : Int) + o) (K : Nx ε p l e R s m args below meth c Tg j z0 (pc + 3) (oIf .eq (pc + o) x 0 L r z v)) : Wx ε p l e R s m args below meth c Tg j z0 pc L (.inl x :: r) z v := by
  intro H locs ls hR hL hl gL gS
  unfold oIf at K
  dsimp only at K
  have hq : Int32.ofInt x = Int32.ofInt 0 ↔ x = 0 := ofI_inj gS.hd rg0
  refine lv_if_eq C.1.1 C.1.2.1 hd (Int.toNat_of_nonneg ho).symm (fun q => ?_) (fun q => ?_)
  · rw [if_pos (hq.mp q)] at K
    exact K H locs ls hR hL hl gL gS.tl
  · rw [if_neg (fun h => q (hq.mpr h))] at K
    exact K.2 H locs ls hR hL hl gL gS.tl
theorem sn_if_ne (C : Cx ε p R s m args meth c j d) {o : Int} {x : Int} {r : List xv} (hd : decode (bc j) pc = .ok (.ifCond .ne o, 3)) (ho : 0 ≤ (pc : Int) + o) (K : Nx ε p l e R s m args below meth c Tg j z0 (pc + 3) (oIf .ne (pc + o) x 0 L r z v)) : Wx ε p l e R s m args below meth c Tg j z0 pc L (.inl x :: r) z v := by
  intro H locs ls hR hL hl gL gS
  unfold oIf at K
  dsimp only at K
  have hq : ¬ Int32.ofInt x = Int32.ofInt 0 ↔ ¬ x = 0 := not_congr (ofI_inj gS.hd rg0)
  refine lv_if_ne C.1.1 C.1.2.1 hd (Int.toNat_of_nonneg ho).symm (fun q => ?_) (fun q => ?_)
  · rw [if_neg (hq.mp q)] at K
    exact K H locs ls hR hL hl gL gS.tl
  · rw [if_pos ((ofI_inj gS.hd rg0).mp q)] at K
    exact K.2 H locs ls hR hL hl gL gS.tl
theorem sn_if_lt (C : Cx ε p R s m args meth c j d) {o : Int} {x : Int} {r : List xv} (hd : decode (bc j) pc = .ok (.ifCond .lt o, 3)) (ho : 0 ≤ (pc : Int) + o) (K : Nx ε p l e R s m args below meth c Tg j z0 (pc + 3) (oIf .lt (pc + o) x 0 L r z v)) : Wx ε p l e R s m args below meth c Tg j z0 pc L (.inl x :: r) z v := by
  intro H locs ls hR hL hl gL gS
  unfold oIf at K
  dsimp only at K
  have hq : Int32.ofInt x < Int32.ofInt 0 ↔ x < 0 := ofI_lt gS.hd rg0
  refine lv_if_lt C.1.1 C.1.2.1 hd (Int.toNat_of_nonneg ho).symm (fun q => ?_) (fun q => ?_)
  · rw [if_pos (hq.mp q)] at K
    exact K H locs ls hR hL hl gL gS.tl
  · rw [if_neg (fun h => q (hq.mpr h))] at K
    exact K.2 H locs ls hR hL hl gL gS.tl
theorem sn_if_ge (C : Cx ε p R s m args meth c j d) {o : Int} {x : Int} {r : List xv} (hd : decode (bc j) pc = .ok (.ifCond .ge o, 3)) (ho : 0 ≤ (pc : Int) + o) (K : Nx ε p l e R s m args below meth c Tg j z0 (pc + 3) (oIf .ge (pc + o) x 0 L r z v)) : Wx ε p l e R s m args below meth c Tg j z0 pc L (.inl x :: r) z v := by
  intro H locs ls hR hL hl gL gS
  unfold oIf at K
  dsimp only at K
  have hq : Int32.ofInt 0 ≤ Int32.ofInt x ↔ 0 ≤ x := ofI_le rg0 gS.hd
  refine lv_if_ge C.1.1 C.1.2.1 hd (Int.toNat_of_nonneg ho).symm (fun q => ?_) (fun q => ?_)
  · rw [if_neg (by have := hq.mp q; omega)] at K
    exact K H locs ls hR hL hl gL gS.tl
  · rw [if_pos (by have h2 : ¬ (0 ≤ x) := fun h => q (hq.mpr h); omega)] at K
    exact K.2 H locs ls hR hL hl gL gS.tl
theorem sn_if_gt (C : Cx ε p R s m args meth c j d) {o : Int} {x : Int} {r : List xv} (hd : decode (bc j) pc = .ok (.ifCond .gt o, 3)) (ho : 0 ≤ (pc : Int) + o) (K : Nx ε p l e R s m args below meth c Tg j z0 (pc + 3) (oIf .gt (pc + o) x 0 L r z v)) : Wx ε p l e R s m args below meth c Tg j z0 pc L (.inl x :: r) z v := by
  intro H locs ls hR hL hl gL gS
  unfold oIf at K
  dsimp only at K
  have hq : Int32.ofInt 0 < Int32.ofInt x ↔ 0 < x := ofI_lt rg0 gS.hd
  refine lv_if_gt C.1.1 C.1.2.1 hd (Int.toNat_of_nonneg ho).symm (fun q => ?_) (fun q => ?_)
  · rw [if_pos (hq.mp q)] at K
    exact K H locs ls hR hL hl gL gS.tl
  · rw [if_neg (fun h => q (hq.mpr h))] at K
    exact K.2 H locs ls hR hL hl gL gS.tl
theorem sn_if_le (C : Cx ε p R s m args meth c j d) {o : Int} {x : Int} {r : List xv} (hd : decode (bc j) pc = .ok (.ifCond .le o, 3)) (ho : 0 ≤ (pc : Int) + o) (K : Nx ε p l e R s m args below meth c Tg j z0 (pc + 3) (oIf .le (pc + o) x 0 L r z v)) : Wx ε p l e R s m args below meth c Tg j z0 pc L (.inl x :: r) z v := by
  intro H locs ls hR hL hl gL gS
  unfold oIf at K
  dsimp only at K
  have hq : Int32.ofInt x ≤ Int32.ofInt 0 ↔ x ≤ 0 := ofI_le gS.hd rg0
  refine lv_if_le C.1.1 C.1.2.1 hd (Int.toNat_of_nonneg ho).symm (fun q => ?_) (fun q => ?_)
  · rw [if_neg (by have := hq.mp q; omega)] at K
    exact K H locs ls hR hL hl gL gS.tl
  · rw [if_pos (by have h2 : ¬ (x ≤ 0) := fun h => q (hq.mpr h); omega)] at K
    exact K.2 H locs ls hR hL hl gL gS.tl
theorem sn_icmp_eq (C : Cx ε p R s m args meth c j d) {o : Int} {x y : Int} {r : List xv} (hd : decode (bc j) pc = .ok (.if_icmp .eq o, 3)) (ho : 0 ≤ (pc : Int) + o) (K : Nx ε p l e R s m args below meth c Tg j z0 (pc + 3) (oIf .eq (pc + o) x y L r z v)) : Wx ε p l e R s m args below meth c Tg j z0 pc L (.inl y :: .inl x :: r) z v := by
  intro H locs ls hR hL hl gL gS
  unfold oIf at K
  dsimp only at K
  have hq : Int32.ofInt x = Int32.ofInt y ↔ x = y := ofI_inj gS.tl.hd gS.hd
  refine lv_icmp_eq C.1.1 C.1.2.1 hd (Int.toNat_of_nonneg ho).symm (fun q => ?_) (fun q => ?_)
  · rw [if_pos (hq.mp q)] at K
    exact K H locs ls hR hL hl gL gS.tl.tl
  · rw [if_neg (fun h => q (hq.mpr h))] at K
    exact K.2 H locs ls hR hL hl gL gS.tl.tl
theorem sn_icmp_ne (C : Cx ε p R s m args meth c j d) {o : Int} {x y : Int} {r : List xv} (hd : decode (bc j) pc = .ok (.if_icmp .ne o, 3)) (ho : 0 ≤ (pc : Int) + o) (K : Nx ε p l e R s m args below meth c Tg j z0 (pc + 3) (oIf .ne (pc + o) x y L r z v)) : Wx ε p l e R s m args below meth c Tg j z0 pc L (.inl y :: .inl x :: r) z v := by
  intro H locs ls hR hL hl gL gS
  unfold oIf at K
  dsimp only at K
  have hq : ¬ Int32.ofInt x = Int32.ofInt y ↔ ¬ x = y := not_congr (ofI_inj gS.tl.hd gS.hd)
  refine lv_icmp_ne C.1.1 C.1.2.1 hd (Int.toNat_of_nonneg ho).symm (fun q => ?_) (fun q => ?_)
  · rw [if_neg (hq.mp q)] at K
    exact K H locs ls hR hL hl gL gS.tl.tl
  · rw [if_pos ((ofI_inj gS.tl.hd gS.hd).mp q)] at K
    exact K.2 H locs ls hR hL hl gL gS.tl.tl
theorem sn_icmp_lt (C : Cx ε p R s m args meth c j d) {o : Int} {x y : Int} {r : List xv} (hd : decode (bc j) pc = .ok (.if_icmp .lt o, 3)) (ho : 0 ≤ (pc : Int) + o) (K : Nx ε p l e R s m args below meth c Tg j z0 (pc + 3) (oIf .lt (pc + o) x y L r z v)) : Wx ε p l e R s m args below meth c Tg j z0 pc L (.inl y :: .inl x :: r) z v := by
  intro H locs ls hR hL hl gL gS
  unfold oIf at K
  dsimp only at K
  have hq : Int32.ofInt x < Int32.ofInt y ↔ x < y := ofI_lt gS.tl.hd gS.hd
  refine lv_icmp_lt C.1.1 C.1.2.1 hd (Int.toNat_of_nonneg ho).symm (fun q => ?_) (fun q => ?_)
  · rw [if_pos (hq.mp q)] at K
    exact K H locs ls hR hL hl gL gS.tl.tl
  · rw [if_neg (fun h => q (hq.mpr h))] at K
    exact K.2 H locs ls hR hL hl gL gS.tl.tl
theorem sn_icmp_ge (C : Cx ε p R s m args meth c j d) {o : Int} {x y : Int} {r : List xv} (hd : decode (bc j) pc = .ok (.if_icmp .ge o, 3)) (ho : 0 ≤ (pc : Int) + o) (K : Nx ε p l e R s m args below meth c Tg j z0 (pc + 3) (oIf .ge (pc + o) x y L r z v)) : Wx ε p l e R s m args below meth c Tg j z0 pc L (.inl y :: .inl x :: r) z v := by
  intro H locs ls hR hL hl gL gS
  unfold oIf at K
  dsimp only at K
  have hq : Int32.ofInt y ≤ Int32.ofInt x ↔ y ≤ x := ofI_le gS.hd gS.tl.hd
  refine lv_icmp_ge C.1.1 C.1.2.1 hd (Int.toNat_of_nonneg ho).symm (fun q => ?_) (fun q => ?_)
  · rw [if_neg (by have := hq.mp q; omega)] at K
    exact K H locs ls hR hL hl gL gS.tl.tl
  · rw [if_pos (by have h2 : ¬ (y ≤ x) := fun h => q (hq.mpr h); omega)] at K
    exact K.2 H locs ls hR hL hl gL gS.tl.tl
theorem sn_icmp_gt (C : Cx ε p R s m args meth c j d) {o : Int} {x y : Int} {r : List xv} (hd : decode (bc j) pc = .ok (.if_icmp .gt o, 3)) (ho : 0 ≤ (pc : Int) + o) (K : Nx ε p l e R s m args below meth c Tg j z0 (pc + 3) (oIf .gt (pc + o) x y L r z v)) : Wx ε p l e R s m args below meth c Tg j z0 pc L (.inl y :: .inl x :: r) z v := by
  intro H locs ls hR hL hl gL gS
  unfold oIf at K
  dsimp only at K
  have hq : Int32.ofInt y < Int32.ofInt x ↔ y < x := ofI_lt gS.hd gS.tl.hd
  refine lv_icmp_gt C.1.1 C.1.2.1 hd (Int.toNat_of_nonneg ho).symm (fun q => ?_) (fun q => ?_)
  · rw [if_pos (hq.mp q)] at K
    exact K H locs ls hR hL hl gL gS.tl.tl
  · rw [if_neg (fun h => q (hq.mpr h))] at K
    exact K.2 H locs ls hR hL hl gL gS.tl.tl
theorem sn_icmp_le (C : Cx ε p R s m args meth c j d) {o : Int} {x y : Int} {r : List xv} (hd : decode (bc j) pc = .ok (.if_icmp .le o, 3)) (ho : 0 ≤ (pc : Int) + o) (K : Nx ε p l e R s m args below meth c Tg j z0 (pc + 3) (oIf .le (pc + o) x y L r z v)) : Wx ε p l e R s m args below meth c Tg j z0 pc L (.inl y :: .inl x :: r) z v := by
  intro H locs ls hR hL hl gL gS
  unfold oIf at K
  dsimp only at K
  have hq : Int32.ofInt x ≤ Int32.ofInt y ↔ x ≤ y := ofI_le gS.tl.hd gS.hd
  refine lv_icmp_le C.1.1 C.1.2.1 hd (Int.toNat_of_nonneg ho).symm (fun q => ?_) (fun q => ?_)
  · rw [if_neg (by have := hq.mp q; omega)] at K
    exact K H locs ls hR hL hl gL gS.tl.tl
  · rw [if_pos (by have h2 : ¬ (x ≤ y) := fun h => q (hq.mpr h); omega)] at K
    exact K.2 H locs ls hR hL hl gL gS.tl.tl
end SN
