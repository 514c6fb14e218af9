/-! ===== game: class ===== -/
def ush (x y : Int) : Int := b32 (fun x y => (x.toUInt32 >>> (y.toUInt32 &&& Int32.toUInt32 31)).toInt32) x y
def bc1 (w : Int) : Int := wr (w - b32 (· &&& ·) (ush w 1) 1431655765)
def bc2 (i : Int) : Int := wr (b32 (· &&& ·) i 858993459 + b32 (· &&& ·) (ush i 2) 858993459)
def bc3 (i : Int) : Int := b32 (· &&& ·) (wr (i + ush i 4)) 252645135
def bc4 (i : Int) : Int := wr (i + ush i 8)
def bc5 (i : Int) : Int := b32 (· &&& ·) (wr (i + ush i 16)) 63
set_option maxRecDepth 100000 in
theorem g_bc : (allB 1024 fun w => decide (bc5 (bc4 (bc3 (bc2 (bc1 (w : Int))))) = (gPc w : Int))) = true := by decide +kernel
theorem e_bitC {d : Nat} {z : xZ} {v : xV} {Q : xZ → xV → xv → Prop} {w : Nat} (hw : w < 1024) : EvM TB (d + 1) 166 z v [.inl w] Q = Q z v (.inl (gPc w : Int)) := by
  rw [e_ev]
  simp -implicitDefEqProofs only [lay_n, lay_i, lay_a, lay_l, x_nil, x_iconst, x_lconst, x_ldc, x_iload, x_aload, x_lload, x_istore, x_astore, x_lstore, x_iinc, x_iadd, x_isub, x_imul, x_idiv, x_irem, x_ineg, x_iand, x_ior, x_ixor, x_ishl, x_ishr, x_iushr, x_i2b, x_i2c, x_i2l, x_l2i, x_ladd, x_lsub, x_lmul, x_land, x_lor, x_lxor, x_ldiv, x_lrem, x_lneg, x_lshl, x_lushr, x_lcmp, x_max, x_min, x_abs, x_labs, x_lmax, x_dupI, x_dupA, x_dup2, x_popI, x_popA, x_goto, x_eq, x_ne, x_lt, x_ge, x_gt, x_le, x_ceq, x_cne, x_clt, x_cge, x_cgt, x_cle, x_sw, x_getI, x_getR, x_putI, x_putZ, x_putR, x_new, x_newI, x_newC, x_newL, x_anew, x_multi, x_alen, x_iald, x_cald, x_bald, x_lald, x_aald, x_iast, x_cast, x_last, x_aast, x_copy, x_obj, x_call, x_callL, x_iret, x_zret, x_cret, x_bret, x_lret, x_ret, ldI_i, ldA_a, ldL_l, nth_0, nth_s, sto_n0, sto_ns, sto_0, sto_i, sto_a, sto_l0, sto_ls, psh_t, psh_f, spl, splL, sh4, rcv, swK, stoL, clr, reduceIte, Int.reduceEq, Int.reduceLT, Int.reduceLE, Int.reduceAdd, Int.reduceSub, Int.reduceNeg, or_true, true_or, or_false, false_or, false_and, and_false, not_false_eq_true, not_true_eq_false, ne_eq, Nat.reduceDiv, Nat.reduceMod, Nat.reduceAdd, Nat.reduceMul, Nat.reduceBEq, Int.reduceToNat, Int.toNat_natCast, Nat.reduceEqDiff, Nat.reduceLT, Nat.reduceLeDiff, beq_self_eq_true, beq_iff_eq, true_and, and_true, Bool.false_eq_true, ite_self, Int.reduceTMod, Int.reduceTDiv, List.tail_cons, List.cons_append, List.nil_append, Nat.zero_add, g_166_0, g_166_51]
  exact congrArg (fun t => Q z v (Sum.inl t)) (of_decide_eq_true (allB_spec g_bc w hw))
set_option maxRecDepth 100000 in
theorem g_k5 : (allB 1024 fun w => bif Nat.beq (gPc w) 5 then Nat.beq (gTl w 10).1 5 && (allB 10 fun k => bif Nat.beq (w / 2 ^ (9 - k) % 2) 1 then Nat.ble (4 - (gTl w k).1) (9 - k) else true) else true) = true := by decide +kernel
theorem g_k5' {w : Nat} (hw : w < 1024) (h : gPc w = 5) : (gTl w 10).1 = 5 ∧ ∀ k, k < 10 → w / 2 ^ (9 - k) % 2 = 1 → 4 - (gTl w k).1 ≤ 9 - k := by
  have h1 := allB_spec g_k5 w hw
  rw [h] at h1
  have h2 : (Nat.beq (gTl w 10).1 5 && (allB 10 fun k => bif Nat.beq (w / 2 ^ (9 - k) % 2) 1 then Nat.ble (4 - (gTl w k).1) (9 - k) else true)) = true := h1
  simp -implicitDefEqProofs only [Bool.and_eq_true] at h2
  refine ⟨Nat.eq_of_beq_eq_true h2.1, fun k hk hb => ?_⟩
  have h3 := allB_spec h2.2 k hk
  rw [hb] at h3
  exact Nat.le_of_ble_eq_true h3
theorem bT_eq {w b : Nat} (hw : w < 1024) (hb : b < 10) : b32 (· &&& ·) (b32 (fun x y => x >>> (y &&& 31)) (w : Int) (b : Int)) 1 = ((w / 2 ^ b % 2 : Nat) : Int) := of_decide_eq_true (allB_spec (allB_spec g_tst w hw) b hb)
theorem bS_eq {w b : Nat} (hw : w < 1024) (hb : b < 10) : b32 (· ||| ·) (w : Int) (b32 (fun x y => x <<< (y &&& 31)) 1 (b : Int)) = ((Nat.lor w (2 ^ b) : Nat) : Int) ∧ Nat.lor w (2 ^ b) < 1024 := by
  have := allB_spec (allB_spec g_set w hw) b hb
  simp -implicitDefEqProofs only [Bool.and_eq_true] at this
  exact ⟨of_decide_eq_true this.1, Nat.lt_succ_of_le (Nat.le_of_ble_eq_true this.2)⟩
theorem bI_eq {w : Nat} (hw : w < 1024) : b32 (fun x y => x >>> (y &&& 31)) (w : Int) 6 = ((w / 64 : Nat) : Int) ∧ b32 (· &&& ·) ((w / 64 : Nat) : Int) 15 = ((w / 64 : Nat) : Int) ∧ b32 (· &&& ·) (w : Int) 63 = ((w % 64 : Nat) : Int) := by
  have := allB_spec g_ix w hw
  simp -implicitDefEqProofs only [Bool.and_eq_true] at this
  exact ⟨of_decide_eq_true this.1.1, of_decide_eq_true this.1.2, of_decide_eq_true this.2⟩
theorem gTl_y : ∀ w k, (gTl w k).1 ≤ 5
  | _, 0 => Nat.zero_le _
  | w, k + 1 => by
    have := gTl_y w k
    unfold gTl
    cases hh : (Nat.beq (w / 2 ^ (9 - k) % 2) 1 && Nat.ble ((gTl w k).1 + 1) 5) with
    | true =>
      simp -implicitDefEqProofs only [Bool.and_eq_true] at hh
      exact Nat.le_of_ble_eq_true hh.2
    | false => exact this
section GC
variable {d : Nat} {z : xZ} {v : xV} {Q : xZ → xV → xv → Prop} {R : Nat → Nat}
theorem e_tlL {q w : Nat} (hq : zh z q = 100) (hq2 : ((zl z q : Nat) : Int) = 5) (hw : w < 1024) (h5 : gPc w = 5) (hK : ∀ u : xV, (∀ a, a ≠ q → u a = v a) → (∀ y, y < 5 → u q y = ((gTl w 10).2 y : Int)) → Q z u (.inl 0)) : ∀ (m k : Nat) (u : xV) (t : List xv), k + m = 10 → (∀ a, a ≠ q → u a = v a) → (∀ y, y < (gTl w k).1 → u q y = ((gTl w k).2 y : Int)) →
    xGo (EvM TB d) (TB 167) Q 5 (.inl w :: .inr (.inl q) :: .inl ((gTl w k).1 : Int) :: .inl ((9 : Int) - k) :: t) [] z u := by
  obtain ⟨k1, k2⟩ := g_k5' hw h5
  have stay : ∀ m k, k + m = 10 → (gTl w k).1 = 5 → gTl w 10 = gTl w k := by
    intro m
    induction m with
    | zero => intro k hk _; rw [show k = 10 by omega]
    | succ m ih =>
      intro k hk h
      have : gTl w (k + 1) = gTl w k := by
        rw [gTl, h]
        cases Nat.beq (w / 2 ^ (9 - k) % 2) 1 <;> rfl
      rw [← this]
      exact ih (k + 1) (by omega) (by rw [this]; exact h)
  intro m
  induction m with
  | zero =>
    intro k u t hk hf hu
    obtain rfl : k = 10 := by omega
    rw [l_167_5]
    simp -implicitDefEqProofs only [lay_n, lay_i, lay_a, lay_l, x_nil, x_iconst, x_lconst, x_ldc, x_iload, x_aload, x_lload, x_istore, x_astore, x_lstore, x_iinc, x_iadd, x_isub, x_imul, x_idiv, x_irem, x_ineg, x_iand, x_ior, x_ixor, x_ishl, x_ishr, x_iushr, x_i2b, x_i2c, x_i2l, x_l2i, x_ladd, x_lsub, x_lmul, x_land, x_lor, x_lxor, x_ldiv, x_lrem, x_lneg, x_lshl, x_lushr, x_lcmp, x_max, x_min, x_abs, x_labs, x_lmax, x_dupI, x_dupA, x_dup2, x_popI, x_popA, x_goto, x_eq, x_ne, x_lt, x_ge, x_gt, x_le, x_ceq, x_cne, x_clt, x_cge, x_cgt, x_cle, x_sw, x_getI, x_getR, x_putI, x_putZ, x_putR, x_new, x_newI, x_newC, x_newL, x_anew, x_multi, x_alen, x_iald, x_cald, x_bald, x_lald, x_aald, x_iast, x_cast, x_last, x_aast, x_copy, x_obj, x_call, x_callL, x_iret, x_zret, x_cret, x_bret, x_lret, x_ret, ldI_i, ldA_a, ldL_l, nth_0, nth_s, sto_n0, sto_ns, sto_0, sto_i, sto_a, sto_l0, sto_ls, psh_t, psh_f, spl, splL, sh4, rcv, swK, stoL, clr, reduceIte, Int.reduceEq, Int.reduceLT, Int.reduceLE, Int.reduceAdd, Int.reduceSub, Int.reduceNeg, or_true, true_or, or_false, false_or, false_and, and_false, not_false_eq_true, not_true_eq_false, ne_eq, Nat.reduceDiv, Nat.reduceMod, Nat.reduceAdd, Nat.reduceMul, Nat.reduceBEq, Int.reduceToNat, Int.toNat_natCast, Nat.reduceEqDiff, Nat.reduceLT, Nat.reduceLeDiff, beq_self_eq_true, beq_iff_eq, true_and, and_true, Bool.false_eq_true, ite_self, Int.reduceTMod, Int.reduceTDiv, List.tail_cons, List.cons_append, List.nil_append, Nat.zero_add, g_167_0, g_167_34, g_167_40, show (9 : Int) - ((10 : Nat) : Int) < 0 by decide]
    exact hK u hf (fun y hy => hu y (by omega))
  | succ m ih =>
    intro k u t hk hf hu
    have hy5 := gTl_y w k
    rw [l_167_5, show (9 : Int) - (k : Int) = ((9 - k : Nat) : Int) by omega]
    by_cases cy : (gTl w k).1 = 5
    · simp -implicitDefEqProofs only [lay_n, lay_i, lay_a, lay_l, x_nil, x_iconst, x_lconst, x_ldc, x_iload, x_aload, x_lload, x_istore, x_astore, x_lstore, x_iinc, x_iadd, x_isub, x_imul, x_idiv, x_irem, x_ineg, x_iand, x_ior, x_ixor, x_ishl, x_ishr, x_iushr, x_i2b, x_i2c, x_i2l, x_l2i, x_ladd, x_lsub, x_lmul, x_land, x_lor, x_lxor, x_ldiv, x_lrem, x_lneg, x_lshl, x_lushr, x_lcmp, x_max, x_min, x_abs, x_labs, x_lmax, x_dupI, x_dupA, x_dup2, x_popI, x_popA, x_goto, x_eq, x_ne, x_lt, x_ge, x_gt, x_le, x_ceq, x_cne, x_clt, x_cge, x_cgt, x_cle, x_sw, x_getI, x_getR, x_putI, x_putZ, x_putR, x_new, x_newI, x_newC, x_newL, x_anew, x_multi, x_alen, x_iald, x_cald, x_bald, x_lald, x_aald, x_iast, x_cast, x_last, x_aast, x_copy, x_obj, x_call, x_callL, x_iret, x_zret, x_cret, x_bret, x_lret, x_ret, ldI_i, ldA_a, ldL_l, nth_0, nth_s, sto_n0, sto_ns, sto_0, sto_i, sto_a, sto_l0, sto_ls, psh_t, psh_f, spl, splL, sh4, rcv, swK, stoL, clr, reduceIte, Int.reduceEq, Int.reduceLT, Int.reduceLE, Int.reduceAdd, Int.reduceSub, Int.reduceNeg, or_true, true_or, or_false, false_or, false_and, and_false, not_false_eq_true, not_true_eq_false, ne_eq, Nat.reduceDiv, Nat.reduceMod, Nat.reduceAdd, Nat.reduceMul, Nat.reduceBEq, Int.reduceToNat, Int.toNat_natCast, Nat.reduceEqDiff, Nat.reduceLT, Nat.reduceLeDiff, beq_self_eq_true, beq_iff_eq, true_and, and_true, Bool.false_eq_true, ite_self, Int.reduceTMod, Int.reduceTDiv, List.tail_cons, List.cons_append, List.nil_append, Nat.zero_add, g_167_0, g_167_34, g_167_40, hq, hq2, show ¬ ((9 - k : Nat) : Int) < 0 by omega, show ¬ ((gTl w k).1 : Int) < 5 by omega]
      refine hK u hf (fun y hy => ?_)
      rw [stay (m + 1) k hk cy]
      exact hu y (by omega)
    · have e3 : wr (((9 - k : Nat) : Int) + -1) = (9 : Int) - ((k + 1 : Nat) : Int) := by rw [wr_p (by omega) (by omega)]; omega
      have ih1 := ih (k + 1)
      have f1 : ¬ ((9 - k : Nat) : Int) < 0 := by clear e3; omega
      have f2 : ((gTl w k).1 : Int) < 5 := by clear e3; omega
      have f3 : (0 : Int) ≤ ((gTl w k).1 : Int) ∧ ((gTl w k).1 : Int) < 5 := by clear e3; omega
      by_cases cb : w / 2 ^ (9 - k) % 2 = 1
      · have hle := k2 k (by clear e3; omega) cb
        have hg : gTl w (k + 1) = ((gTl w k).1 + 1, upN (gTl w k).2 (gTl w k).1 (9 - k - (4 - (gTl w k).1))) := by
          rw [gTl, cb, Nat.ble_eq_true_of_le (show (gTl w k).1 + 1 ≤ 5 by clear e3; omega)]
          rfl
        rw [hg] at ih1
        have e4 : wr (((9 - k : Nat) : Int) - wr ((4 : Int) - ((gTl w k).1 : Int))) = ((9 - k - (4 - (gTl w k).1) : Nat) : Int) := by
          clear e3
          rw [wr_p (k := (4 : Int) - ((gTl w k).1 : Int)) (by omega) (by omega), wr_p (by omega) (by omega)]
          omega
        have hb := bT_eq hw (show 9 - k < 10 by clear e3 e4; omega)
        rw [cb] at hb
        simp -implicitDefEqProofs only [lay_n, lay_i, lay_a, lay_l, x_nil, x_iconst, x_lconst, x_ldc, x_iload, x_aload, x_lload, x_istore, x_astore, x_lstore, x_iinc, x_iadd, x_isub, x_imul, x_idiv, x_irem, x_ineg, x_iand, x_ior, x_ixor, x_ishl, x_ishr, x_iushr, x_i2b, x_i2c, x_i2l, x_l2i, x_ladd, x_lsub, x_lmul, x_land, x_lor, x_lxor, x_ldiv, x_lrem, x_lneg, x_lshl, x_lushr, x_lcmp, x_max, x_min, x_abs, x_labs, x_lmax, x_dupI, x_dupA, x_dup2, x_popI, x_popA, x_goto, x_eq, x_ne, x_lt, x_ge, x_gt, x_le, x_ceq, x_cne, x_clt, x_cge, x_cgt, x_cle, x_sw, x_getI, x_getR, x_putI, x_putZ, x_putR, x_new, x_newI, x_newC, x_newL, x_anew, x_multi, x_alen, x_iald, x_cald, x_bald, x_lald, x_aald, x_iast, x_cast, x_last, x_aast, x_copy, x_obj, x_call, x_callL, x_iret, x_zret, x_cret, x_bret, x_lret, x_ret, ldI_i, ldA_a, ldL_l, nth_0, nth_s, sto_n0, sto_ns, sto_0, sto_i, sto_a, sto_l0, sto_ls, psh_t, psh_f, spl, splL, sh4, rcv, swK, stoL, clr, reduceIte, Int.reduceEq, Int.reduceLT, Int.reduceLE, Int.reduceAdd, Int.reduceSub, Int.reduceNeg, or_true, true_or, or_false, false_or, false_and, and_false, not_false_eq_true, not_true_eq_false, ne_eq, Nat.reduceDiv, Nat.reduceMod, Nat.reduceAdd, Nat.reduceMul, Nat.reduceBEq, Int.reduceToNat, Int.toNat_natCast, Nat.reduceEqDiff, Nat.reduceLT, Nat.reduceLeDiff, beq_self_eq_true, beq_iff_eq, true_and, and_true, Bool.false_eq_true, ite_self, Int.reduceTMod, Int.reduceTDiv, List.tail_cons, List.cons_append, List.nil_append, Nat.zero_add, g_167_0, g_167_34, g_167_40, hq, hq2, f1, f2, f3, hb, show ¬ ((1 : Nat) : Int) = 0 by decide, e3, e4, wr_s (show (gTl w k).1 < 1000000 by clear e3 e4; omega)]
        clear e3 e4
        refine ih1 _ _ (by omega) (fun a ha => ?_) (fun y hy => ?_)
        · funext y; simp -implicitDefEqProofs only [up_ap, ha, lay_n, lay_i, lay_a, lay_l, x_nil, x_iconst, x_lconst, x_ldc, x_iload, x_aload, x_lload, x_istore, x_astore, x_lstore, x_iinc, x_iadd, x_isub, x_imul, x_idiv, x_irem, x_ineg, x_iand, x_ior, x_ixor, x_ishl, x_ishr, x_iushr, x_i2b, x_i2c, x_i2l, x_l2i, x_ladd, x_lsub, x_lmul, x_land, x_lor, x_lxor, x_ldiv, x_lrem, x_lneg, x_lshl, x_lushr, x_lcmp, x_max, x_min, x_abs, x_labs, x_lmax, x_dupI, x_dupA, x_dup2, x_popI, x_popA, x_goto, x_eq, x_ne, x_lt, x_ge, x_gt, x_le, x_ceq, x_cne, x_clt, x_cge, x_cgt, x_cle, x_sw, x_getI, x_getR, x_putI, x_putZ, x_putR, x_new, x_newI, x_newC, x_newL, x_anew, x_multi, x_alen, x_iald, x_cald, x_bald, x_lald, x_aald, x_iast, x_cast, x_last, x_aast, x_copy, x_obj, x_call, x_callL, x_iret, x_zret, x_cret, x_bret, x_lret, x_ret, ldI_i, ldA_a, ldL_l, nth_0, nth_s, sto_n0, sto_ns, sto_0, sto_i, sto_a, sto_l0, sto_ls, psh_t, psh_f, spl, splL, sh4, rcv, swK, stoL, clr, reduceIte, Int.reduceEq, Int.reduceLT, Int.reduceLE, Int.reduceAdd, Int.reduceSub, Int.reduceNeg, or_true, true_or, or_false, false_or, false_and, and_false, not_false_eq_true, not_true_eq_false, ne_eq, Nat.reduceDiv, Nat.reduceMod, Nat.reduceAdd, Nat.reduceMul, Nat.reduceBEq, Int.reduceToNat, Int.toNat_natCast, Nat.reduceEqDiff, Nat.reduceLT, Nat.reduceLeDiff, beq_self_eq_true, beq_iff_eq, true_and, and_true, Bool.false_eq_true, ite_self, Int.reduceTMod, Int.reduceTDiv, List.tail_cons, List.cons_append, List.nil_append, Nat.zero_add]; rw [hf a ha]
        · show _ = (upN (gTl w k).2 (gTl w k).1 (9 - k - (4 - (gTl w k).1)) y : Int)
          have hy' : y < (gTl w k).1 + 1 := hy
          unfold upN
          by_cases e : y = (gTl w k).1
          · rw [if_pos e, e]; simp -implicitDefEqProofs only [up_ap, lay_n, lay_i, lay_a, lay_l, x_nil, x_iconst, x_lconst, x_ldc, x_iload, x_aload, x_lload, x_istore, x_astore, x_lstore, x_iinc, x_iadd, x_isub, x_imul, x_idiv, x_irem, x_ineg, x_iand, x_ior, x_ixor, x_ishl, x_ishr, x_iushr, x_i2b, x_i2c, x_i2l, x_l2i, x_ladd, x_lsub, x_lmul, x_land, x_lor, x_lxor, x_ldiv, x_lrem, x_lneg, x_lshl, x_lushr, x_lcmp, x_max, x_min, x_abs, x_labs, x_lmax, x_dupI, x_dupA, x_dup2, x_popI, x_popA, x_goto, x_eq, x_ne, x_lt, x_ge, x_gt, x_le, x_ceq, x_cne, x_clt, x_cge, x_cgt, x_cle, x_sw, x_getI, x_getR, x_putI, x_putZ, x_putR, x_new, x_newI, x_newC, x_newL, x_anew, x_multi, x_alen, x_iald, x_cald, x_bald, x_lald, x_aald, x_iast, x_cast, x_last, x_aast, x_copy, x_obj, x_call, x_callL, x_iret, x_zret, x_cret, x_bret, x_lret, x_ret, ldI_i, ldA_a, ldL_l, nth_0, nth_s, sto_n0, sto_ns, sto_0, sto_i, sto_a, sto_l0, sto_ls, psh_t, psh_f, spl, splL, sh4, rcv, swK, stoL, clr, reduceIte, Int.reduceEq, Int.reduceLT, Int.reduceLE, Int.reduceAdd, Int.reduceSub, Int.reduceNeg, or_true, true_or, or_false, false_or, false_and, and_false, not_false_eq_true, not_true_eq_false, ne_eq, Nat.reduceDiv, Nat.reduceMod, Nat.reduceAdd, Nat.reduceMul, Nat.reduceBEq, Int.reduceToNat, Int.toNat_natCast, Nat.reduceEqDiff, Nat.reduceLT, Nat.reduceLeDiff, beq_self_eq_true, beq_iff_eq, true_and, and_true, Bool.false_eq_true, ite_self, Int.reduceTMod, Int.reduceTDiv, List.tail_cons, List.cons_append, List.nil_append, Nat.zero_add, and_self]
          · rw [if_neg e]; simp -implicitDefEqProofs only [up_ap, e, lay_n, lay_i, lay_a, lay_l, x_nil, x_iconst, x_lconst, x_ldc, x_iload, x_aload, x_lload, x_istore, x_astore, x_lstore, x_iinc, x_iadd, x_isub, x_imul, x_idiv, x_irem, x_ineg, x_iand, x_ior, x_ixor, x_ishl, x_ishr, x_iushr, x_i2b, x_i2c, x_i2l, x_l2i, x_ladd, x_lsub, x_lmul, x_land, x_lor, x_lxor, x_ldiv, x_lrem, x_lneg, x_lshl, x_lushr, x_lcmp, x_max, x_min, x_abs, x_labs, x_lmax, x_dupI, x_dupA, x_dup2, x_popI, x_popA, x_goto, x_eq, x_ne, x_lt, x_ge, x_gt, x_le, x_ceq, x_cne, x_clt, x_cge, x_cgt, x_cle, x_sw, x_getI, x_getR, x_putI, x_putZ, x_putR, x_new, x_newI, x_newC, x_newL, x_anew, x_multi, x_alen, x_iald, x_cald, x_bald, x_lald, x_aald, x_iast, x_cast, x_last, x_aast, x_copy, x_obj, x_call, x_callL, x_iret, x_zret, x_cret, x_bret, x_lret, x_ret, ldI_i, ldA_a, ldL_l, nth_0, nth_s, sto_n0, sto_ns, sto_0, sto_i, sto_a, sto_l0, sto_ls, psh_t, psh_f, spl, splL, sh4, rcv, swK, stoL, clr, reduceIte, Int.reduceEq, Int.reduceLT, Int.reduceLE, Int.reduceAdd, Int.reduceSub, Int.reduceNeg, or_true, true_or, or_false, false_or, false_and, and_false, not_false_eq_true, not_true_eq_false, ne_eq, Nat.reduceDiv, Nat.reduceMod, Nat.reduceAdd, Nat.reduceMul, Nat.reduceBEq, Int.reduceToNat, Int.toNat_natCast, Nat.reduceEqDiff, Nat.reduceLT, Nat.reduceLeDiff, beq_self_eq_true, beq_iff_eq, true_and, and_true, Bool.false_eq_true, ite_self, Int.reduceTMod, Int.reduceTDiv, List.tail_cons, List.cons_append, List.nil_append, Nat.zero_add]; exact hu y (by omega)
      · have cb0 : w / 2 ^ (9 - k) % 2 = 0 := by clear e3; omega
        have hg : gTl w (k + 1) = gTl w k := by
          rw [gTl, cb0]
          rfl
        rw [hg] at ih1
        have hb := bT_eq hw (show 9 - k < 10 by clear e3; omega)
        rw [cb0] at hb
        simp -implicitDefEqProofs only [lay_n, lay_i, lay_a, lay_l, x_nil, x_iconst, x_lconst, x_ldc, x_iload, x_aload, x_lload, x_istore, x_astore, x_lstore, x_iinc, x_iadd, x_isub, x_imul, x_idiv, x_irem, x_ineg, x_iand, x_ior, x_ixor, x_ishl, x_ishr, x_iushr, x_i2b, x_i2c, x_i2l, x_l2i, x_ladd, x_lsub, x_lmul, x_land, x_lor, x_lxor, x_ldiv, x_lrem, x_lneg, x_lshl, x_lushr, x_lcmp, x_max, x_min, x_abs, x_labs, x_lmax, x_dupI, x_dupA, x_dup2, x_popI, x_popA, x_goto, x_eq, x_ne, x_lt, x_ge, x_gt, x_le, x_ceq, x_cne, x_clt, x_cge, x_cgt, x_cle, x_sw, x_getI, x_getR, x_putI, x_putZ, x_putR, x_new, x_newI, x_newC, x_newL, x_anew, x_multi, x_alen, x_iald, x_cald, x_bald, x_lald, x_aald, x_iast, x_cast, x_last, x_aast, x_copy, x_obj, x_call, x_callL, x_iret, x_zret, x_cret, x_bret, x_lret, x_ret, ldI_i, ldA_a, ldL_l, nth_0, nth_s, sto_n0, sto_ns, sto_0, sto_i, sto_a, sto_l0, sto_ls, psh_t, psh_f, spl, splL, sh4, rcv, swK, stoL, clr, reduceIte, Int.reduceEq, Int.reduceLT, Int.reduceLE, Int.reduceAdd, Int.reduceSub, Int.reduceNeg, or_true, true_or, or_false, false_or, false_and, and_false, not_false_eq_true, not_true_eq_false, ne_eq, Nat.reduceDiv, Nat.reduceMod, Nat.reduceAdd, Nat.reduceMul, Nat.reduceBEq, Int.reduceToNat, Int.toNat_natCast, Nat.reduceEqDiff, Nat.reduceLT, Nat.reduceLeDiff, beq_self_eq_true, beq_iff_eq, true_and, and_true, Bool.false_eq_true, ite_self, Int.reduceTMod, Int.reduceTDiv, List.tail_cons, List.cons_append, List.nil_append, Nat.zero_add, g_167_0, g_167_34, g_167_40, hq, hq2, f1, f2, hb, show (((0 : Nat) : Int) = 0) = True from eq_true rfl, e3]
        exact ih1 _ _ (by clear e3; omega) hf hu
theorem e_tl {q w : Nat} (hq : zh z q = 100) (hq2 : ((zl z q : Nat) : Int) = 5) (hw : w < 1024) (h5 : gPc w = 5) (hK : ∀ u : xV, (∀ a, a ≠ q → u a = v a) → (∀ y, y < 5 → u q y = ((gTl w 10).2 y : Int)) → Q z u (.inl 0)) : EvM TB (d + 1) 167 z v [.inl w, .inr (.inl q)] Q := by
  rw [e_ev]
  simp -implicitDefEqProofs only [lay_n, lay_i, lay_a, lay_l, x_nil, x_iconst, x_lconst, x_ldc, x_iload, x_aload, x_lload, x_istore, x_astore, x_lstore, x_iinc, x_iadd, x_isub, x_imul, x_idiv, x_irem, x_ineg, x_iand, x_ior, x_ixor, x_ishl, x_ishr, x_iushr, x_i2b, x_i2c, x_i2l, x_l2i, x_ladd, x_lsub, x_lmul, x_land, x_lor, x_lxor, x_ldiv, x_lrem, x_lneg, x_lshl, x_lushr, x_lcmp, x_max, x_min, x_abs, x_labs, x_lmax, x_dupI, x_dupA, x_dup2, x_popI, x_popA, x_goto, x_eq, x_ne, x_lt, x_ge, x_gt, x_le, x_ceq, x_cne, x_clt, x_cge, x_cgt, x_cle, x_sw, x_getI, x_getR, x_putI, x_putZ, x_putR, x_new, x_newI, x_newC, x_newL, x_anew, x_multi, x_alen, x_iald, x_cald, x_bald, x_lald, x_aald, x_iast, x_cast, x_last, x_aast, x_copy, x_obj, x_call, x_callL, x_iret, x_zret, x_cret, x_bret, x_lret, x_ret, ldI_i, ldA_a, ldL_l, nth_0, nth_s, sto_n0, sto_ns, sto_0, sto_i, sto_a, sto_l0, sto_ls, psh_t, psh_f, spl, splL, sh4, rcv, swK, stoL, clr, reduceIte, Int.reduceEq, Int.reduceLT, Int.reduceLE, Int.reduceAdd, Int.reduceSub, Int.reduceNeg, or_true, true_or, or_false, false_or, false_and, and_false, not_false_eq_true, not_true_eq_false, ne_eq, Nat.reduceDiv, Nat.reduceMod, Nat.reduceAdd, Nat.reduceMul, Nat.reduceBEq, Int.reduceToNat, Int.toNat_natCast, Nat.reduceEqDiff, Nat.reduceLT, Nat.reduceLeDiff, beq_self_eq_true, beq_iff_eq, true_and, and_true, Bool.false_eq_true, ite_self, Int.reduceTMod, Int.reduceTDiv, List.tail_cons, List.cons_append, List.nil_append, Nat.zero_add, g_167_0, g_167_34, g_167_40]
  exact e_tlL hq hq2 hw h5 hK 10 0 v [] (by omega) (fun _ _ => rfl) (fun y hy => absurd hy (Nat.not_lt_zero _))
theorem e_btS {q : Nat} (hq : zh z q = 100) (hq2 : ((zl z q : Nat) : Int) = 5) (hR : ∀ y, y < 5 → v q y = (R y : Int) ∧ R y ≤ 5) {x y : Nat} (s k s' k' : Nat) (t : List xv) (hk : k < 5) (hs : s < 1024) (hs' : s' = Nat.lor s (2 ^ (gM R x y k + (4 - k)))) (hk' : k' = k + 1) (hx : x ≤ 5) (hy : y < 5) : s' < 1024 ∧ xGo (EvM TB d) (TB 169) Q 5 (.inr (.inl q) :: .inl x :: .inl y :: .inl s :: .inl k :: t) [] z v = xGo (EvM TB d) (TB 169) Q 5 (.inr (.inl q) :: .inl x :: .inl y :: .inl s' :: .inl k' :: .inl (gM R x y k : Int) :: t.tail) [] z v := by
  subst hs' hk'
  obtain ⟨q1, q2⟩ := hR k hk
  have hg := @gM_le R x y k q2
  obtain ⟨b1, b2⟩ := bS_eq (w := s) (b := gM R x y k + (4 - k)) hs (by omega)
  refine ⟨b2, ?_⟩
  have e1 : wr (wr (wr ((gM R x y k : Int) + 5) - 1) - (k : Int)) = ((gM R x y k + (4 - k) : Nat) : Int) := by
    clear b1
    rw [wr_p (k := (gM R x y k : Int) + 5) (by omega) (by omega), wr_p (k := (gM R x y k : Int) + 5 - 1) (by omega) (by omega), wr_p (by omega) (by omega)]
    omega
  have f1 : (k : Int) < 5 := by clear e1 b1; omega
  have f2 : (0 : Int) ≤ (k : Int) ∧ (k : Int) < 5 := by clear e1 b1; omega
  rw [l_169_5]
  have hgm := gM_eq R x y k
  by_cases c : y ≤ k
  · rw [if_pos c] at hgm
    have e2 : min (R k : Int) (x : Int) = (gM R x y k : Int) := by clear e1 b1; omega
    simp -implicitDefEqProofs only [lay_n, lay_i, lay_a, lay_l, x_nil, x_iconst, x_lconst, x_ldc, x_iload, x_aload, x_lload, x_istore, x_astore, x_lstore, x_iinc, x_iadd, x_isub, x_imul, x_idiv, x_irem, x_ineg, x_iand, x_ior, x_ixor, x_ishl, x_ishr, x_iushr, x_i2b, x_i2c, x_i2l, x_l2i, x_ladd, x_lsub, x_lmul, x_land, x_lor, x_lxor, x_ldiv, x_lrem, x_lneg, x_lshl, x_lushr, x_lcmp, x_max, x_min, x_abs, x_labs, x_lmax, x_dupI, x_dupA, x_dup2, x_popI, x_popA, x_goto, x_eq, x_ne, x_lt, x_ge, x_gt, x_le, x_ceq, x_cne, x_clt, x_cge, x_cgt, x_cle, x_sw, x_getI, x_getR, x_putI, x_putZ, x_putR, x_new, x_newI, x_newC, x_newL, x_anew, x_multi, x_alen, x_iald, x_cald, x_bald, x_lald, x_aald, x_iast, x_cast, x_last, x_aast, x_copy, x_obj, x_call, x_callL, x_iret, x_zret, x_cret, x_bret, x_lret, x_ret, ldI_i, ldA_a, ldL_l, nth_0, nth_s, sto_n0, sto_ns, sto_0, sto_i, sto_a, sto_l0, sto_ls, psh_t, psh_f, spl, splL, sh4, rcv, swK, stoL, clr, reduceIte, Int.reduceEq, Int.reduceLT, Int.reduceLE, Int.reduceAdd, Int.reduceSub, Int.reduceNeg, or_true, true_or, or_false, false_or, false_and, and_false, not_false_eq_true, not_true_eq_false, ne_eq, Nat.reduceDiv, Nat.reduceMod, Nat.reduceAdd, Nat.reduceMul, Nat.reduceBEq, Int.reduceToNat, Int.toNat_natCast, Nat.reduceEqDiff, Nat.reduceLT, Nat.reduceLeDiff, beq_self_eq_true, beq_iff_eq, true_and, and_true, Bool.false_eq_true, ite_self, Int.reduceTMod, Int.reduceTDiv, List.tail_cons, List.cons_append, List.nil_append, Nat.zero_add, g_169_0, g_169_25, g_169_33, g_169_55, hq, hq2, f1, f2, q1, e2, e1, b1, show ¬ (k : Int) < (y : Int) by clear e1 b1; omega, wr_s (show k < 1000000 by clear e1 b1; omega), sto_t]
  · rw [if_neg c] at hgm
    have e2 : (R k : Int) = (gM R x y k : Int) := by clear e1 b1; omega
    simp -implicitDefEqProofs only [lay_n, lay_i, lay_a, lay_l, x_nil, x_iconst, x_lconst, x_ldc, x_iload, x_aload, x_lload, x_istore, x_astore, x_lstore, x_iinc, x_iadd, x_isub, x_imul, x_idiv, x_irem, x_ineg, x_iand, x_ior, x_ixor, x_ishl, x_ishr, x_iushr, x_i2b, x_i2c, x_i2l, x_l2i, x_ladd, x_lsub, x_lmul, x_land, x_lor, x_lxor, x_ldiv, x_lrem, x_lneg, x_lshl, x_lushr, x_lcmp, x_max, x_min, x_abs, x_labs, x_lmax, x_dupI, x_dupA, x_dup2, x_popI, x_popA, x_goto, x_eq, x_ne, x_lt, x_ge, x_gt, x_le, x_ceq, x_cne, x_clt, x_cge, x_cgt, x_cle, x_sw, x_getI, x_getR, x_putI, x_putZ, x_putR, x_new, x_newI, x_newC, x_newL, x_anew, x_multi, x_alen, x_iald, x_cald, x_bald, x_lald, x_aald, x_iast, x_cast, x_last, x_aast, x_copy, x_obj, x_call, x_callL, x_iret, x_zret, x_cret, x_bret, x_lret, x_ret, ldI_i, ldA_a, ldL_l, nth_0, nth_s, sto_n0, sto_ns, sto_0, sto_i, sto_a, sto_l0, sto_ls, psh_t, psh_f, spl, splL, sh4, rcv, swK, stoL, clr, reduceIte, Int.reduceEq, Int.reduceLT, Int.reduceLE, Int.reduceAdd, Int.reduceSub, Int.reduceNeg, or_true, true_or, or_false, false_or, false_and, and_false, not_false_eq_true, not_true_eq_false, ne_eq, Nat.reduceDiv, Nat.reduceMod, Nat.reduceAdd, Nat.reduceMul, Nat.reduceBEq, Int.reduceToNat, Int.toNat_natCast, Nat.reduceEqDiff, Nat.reduceLT, Nat.reduceLeDiff, beq_self_eq_true, beq_iff_eq, true_and, and_true, Bool.false_eq_true, ite_self, Int.reduceTMod, Int.reduceTDiv, List.tail_cons, List.cons_append, List.nil_append, Nat.zero_add, g_169_0, g_169_25, g_169_33, g_169_55, hq, hq2, f1, f2, q1, e2, e1, b1, show (k : Int) < (y : Int) by clear e1 b1; omega, wr_s (show k < 1000000 by clear e1 b1; omega), sto_t]
theorem e_bitten {q : Nat} (hq : zh z q = 100) (hq2 : ((zl z q : Nat) : Int) = 5) (hR : ∀ y, y < 5 → v q y = (R y : Int) ∧ R y ≤ 5) {x y : Nat} (hx : x ≤ 5) (hy : y < 5) : gW R x y < 1024 ∧ EvM TB (d + 1) 169 z v [.inr (.inl q), .inl x, .inl y] Q = Q z v (.inl (gW R x y : Int)) := by
  rw [e_ev]
  simp -implicitDefEqProofs only [lay_n, lay_i, lay_a, lay_l, x_nil, x_iconst, x_lconst, x_ldc, x_iload, x_aload, x_lload, x_istore, x_astore, x_lstore, x_iinc, x_iadd, x_isub, x_imul, x_idiv, x_irem, x_ineg, x_iand, x_ior, x_ixor, x_ishl, x_ishr, x_iushr, x_i2b, x_i2c, x_i2l, x_l2i, x_ladd, x_lsub, x_lmul, x_land, x_lor, x_lxor, x_ldiv, x_lrem, x_lneg, x_lshl, x_lushr, x_lcmp, x_max, x_min, x_abs, x_labs, x_lmax, x_dupI, x_dupA, x_dup2, x_popI, x_popA, x_goto, x_eq, x_ne, x_lt, x_ge, x_gt, x_le, x_ceq, x_cne, x_clt, x_cge, x_cgt, x_cle, x_sw, x_getI, x_getR, x_putI, x_putZ, x_putR, x_new, x_newI, x_newC, x_newL, x_anew, x_multi, x_alen, x_iald, x_cald, x_bald, x_lald, x_aald, x_iast, x_cast, x_last, x_aast, x_copy, x_obj, x_call, x_callL, x_iret, x_zret, x_cret, x_bret, x_lret, x_ret, ldI_i, ldA_a, ldL_l, nth_0, nth_s, sto_n0, sto_ns, sto_0, sto_i, sto_a, sto_l0, sto_ls, psh_t, psh_f, spl, splL, sh4, rcv, swK, stoL, clr, reduceIte, Int.reduceEq, Int.reduceLT, Int.reduceLE, Int.reduceAdd, Int.reduceSub, Int.reduceNeg, or_true, true_or, or_false, false_or, false_and, and_false, not_false_eq_true, not_true_eq_false, ne_eq, Nat.reduceDiv, Nat.reduceMod, Nat.reduceAdd, Nat.reduceMul, Nat.reduceBEq, Int.reduceToNat, Int.toNat_natCast, Nat.reduceEqDiff, Nat.reduceLT, Nat.reduceLeDiff, beq_self_eq_true, beq_iff_eq, true_and, and_true, Bool.false_eq_true, ite_self, Int.reduceTMod, Int.reduceTDiv, List.tail_cons, List.cons_append, List.nil_append, Nat.zero_add, g_169_0, g_169_25, g_169_33, g_169_55]
  obtain ⟨s1, hs1⟩ : ∃ s, s = Nat.lor 0 (2 ^ (gM R x y 0 + (4 - 0))) := ⟨_, rfl⟩
  obtain ⟨s2, hs2⟩ : ∃ s, s = Nat.lor s1 (2 ^ (gM R x y 1 + (4 - 1))) := ⟨_, rfl⟩
  obtain ⟨s3, hs3⟩ : ∃ s, s = Nat.lor s2 (2 ^ (gM R x y 2 + (4 - 2))) := ⟨_, rfl⟩
  obtain ⟨s4, hs4⟩ : ∃ s, s = Nat.lor s3 (2 ^ (gM R x y 3 + (4 - 3))) := ⟨_, rfl⟩
  obtain ⟨s5, hs5⟩ : ∃ s, s = Nat.lor s4 (2 ^ (gM R x y 4 + (4 - 4))) := ⟨_, rfl⟩
  obtain ⟨a1, b1⟩ := @e_btS d z v Q R q hq hq2 hR x y 0 0 s1 1 [] (by decide) (by decide) hs1 rfl hx hy
  obtain ⟨a2, b2⟩ := @e_btS d z v Q R q hq hq2 hR x y s1 1 s2 2 [.inl (gM R x y 0 : Int)] (by decide) a1 hs2 rfl hx hy
  obtain ⟨a3, b3⟩ := @e_btS d z v Q R q hq hq2 hR x y s2 2 s3 3 [.inl (gM R x y 1 : Int)] (by decide) a2 hs3 rfl hx hy
  obtain ⟨a4, b4⟩ := @e_btS d z v Q R q hq hq2 hR x y s3 3 s4 4 [.inl (gM R x y 2 : Int)] (by decide) a3 hs4 rfl hx hy
  obtain ⟨a5, b5⟩ := @e_btS d z v Q R q hq hq2 hR x y s4 4 s5 5 [.inl (gM R x y 3 : Int)] (by decide) a4 hs5 rfl hx hy
  have e : gW R x y = s5 := by
    unfold gW
    rw [hs5, hs4, hs3, hs2, hs1]
  rw [e]
  refine ⟨a5, b1.trans (b2.trans (b3.trans (b4.trans (b5.trans ?_))))⟩
  rw [l_169_5]
  simp -implicitDefEqProofs only [lay_n, lay_i, lay_a, lay_l, x_nil, x_iconst, x_lconst, x_ldc, x_iload, x_aload, x_lload, x_istore, x_astore, x_lstore, x_iinc, x_iadd, x_isub, x_imul, x_idiv, x_irem, x_ineg, x_iand, x_ior, x_ixor, x_ishl, x_ishr, x_iushr, x_i2b, x_i2c, x_i2l, x_l2i, x_ladd, x_lsub, x_lmul, x_land, x_lor, x_lxor, x_ldiv, x_lrem, x_lneg, x_lshl, x_lushr, x_lcmp, x_max, x_min, x_abs, x_labs, x_lmax, x_dupI, x_dupA, x_dup2, x_popI, x_popA, x_goto, x_eq, x_ne, x_lt, x_ge, x_gt, x_le, x_ceq, x_cne, x_clt, x_cge, x_cgt, x_cle, x_sw, x_getI, x_getR, x_putI, x_putZ, x_putR, x_new, x_newI, x_newC, x_newL, x_anew, x_multi, x_alen, x_iald, x_cald, x_bald, x_lald, x_aald, x_iast, x_cast, x_last, x_aast, x_copy, x_obj, x_call, x_callL, x_iret, x_zret, x_cret, x_bret, x_lret, x_ret, ldI_i, ldA_a, ldL_l, nth_0, nth_s, sto_n0, sto_ns, sto_0, sto_i, sto_a, sto_l0, sto_ls, psh_t, psh_f, spl, splL, sh4, rcv, swK, stoL, clr, reduceIte, Int.reduceEq, Int.reduceLT, Int.reduceLE, Int.reduceAdd, Int.reduceSub, Int.reduceNeg, or_true, true_or, or_false, false_or, false_and, and_false, not_false_eq_true, not_true_eq_false, ne_eq, Nat.reduceDiv, Nat.reduceMod, Nat.reduceAdd, Nat.reduceMul, Nat.reduceBEq, Int.reduceToNat, Int.toNat_natCast, Nat.reduceEqDiff, Nat.reduceLT, Nat.reduceLeDiff, beq_self_eq_true, beq_iff_eq, true_and, and_true, Bool.false_eq_true, ite_self, Int.reduceTMod, Int.reduceTDiv, List.tail_cons, List.cons_append, List.nil_append, Nat.zero_add, g_169_0, g_169_25, g_169_33, g_169_55, hq, hq2, show ¬ ((5 : Nat) : Int) < 5 by decide]
end GC
/-- bits of a long -/
def lbt (x : Int64) (j : Nat) : Bool := x.toBitVec.getLsbD j
theorem sh63 : (allB 64 fun j => decide (((Int32.ofInt (j : Int)).toInt64.toUInt64 &&& Int64.toUInt64 63) = UInt64.ofNat j) && decide ((UInt64.mod (UInt64.ofNat j) 64).toBitVec.toNat = j) && decide ((Int64.ofInt 1 <<< ((Int32.ofInt (j : Int)).toInt64 &&& 63)).toBitVec = BitVec.twoPow 64 j)) = true := by decide +kernel
theorem lbt_tst {x : Int64} {j : Nat} (hj : j < 64) : ((lg_cmp ((x.toUInt64 >>> ((Int32.ofInt (j : Int)).toInt64.toUInt64 &&& Int64.toUInt64 63)).toInt64 &&& Int64.ofInt 1) (Int64.ofInt 0)).toInt = 0) ↔ lbt x j = false := by
  have h := allB_spec sh63 j hj
  simp -implicitDefEqProofs only [Bool.and_eq_true] at h
  have h1 := of_decide_eq_true h.1.1
  have h3 := of_decide_eq_true h.1.2
  rw [h1]
  have key : ((x.toUInt64 >>> UInt64.ofNat j).toInt64 &&& Int64.ofInt 1).toBitVec = (x.toBitVec >>> j) &&& 1#64 := by
    show (x.toBitVec >>> (UInt64.mod (UInt64.ofNat j) 64).toBitVec) &&& 1#64 = _
    rw [BitVec.ushiftRight_eq', h3]
  have e0 : ∀ a : Int64, (lg_cmp a (Int64.ofInt 0)).toInt = 0 ↔ a.toBitVec = 0#64 := by
    intro a
    unfold lg_cmp
    by_cases c : a = Int64.ofInt 0
    · subst c
      rw [if_neg (by decide), if_pos rfl]
      exact ⟨fun _ => rfl, fun _ => rfl⟩
    · have hne : ¬ a.toBitVec = 0#64 := fun q => c (Int64.toBitVec.inj q)
      rw [if_neg c]
      by_cases c2 : a > Int64.ofInt 0
      · rw [if_pos c2]; exact ⟨fun q => absurd q (by decide), fun q => absurd q hne⟩
      · rw [if_neg c2]; exact ⟨fun q => absurd q (by decide), fun q => absurd q hne⟩
  rw [e0, key, BitVec.and_one_eq_setWidth_ofBool_getLsbD, BitVec.getLsbD_ushiftRight, Nat.add_zero]
  unfold lbt
  cases x.toBitVec.getLsbD j <;> decide
theorem lbt_set {x : Int64} {j i : Nat} (hj : j < 64) (hi : i < 64) : lbt (x ||| (Int64.ofInt 1 <<< ((Int32.ofInt (j : Int)).toInt64 &&& 63))) i = (lbt x i || decide (i = j)) := by
  have h := allB_spec sh63 j hj
  simp -implicitDefEqProofs only [Bool.and_eq_true] at h
  have h3 := of_decide_eq_true h.2
  show (x.toBitVec ||| (Int64.ofInt 1 <<< ((Int32.ofInt (j : Int)).toInt64 &&& 63)).toBitVec).getLsbD i = _
  rw [h3, BitVec.getLsbD_or, BitVec.getLsbD_twoPow]
  unfold lbt
  congr 1
  by_cases e : i = j
  · subst e; simp [hi]
  · rw [decide_eq_false e]
    simp
    omega
theorem gI_cg {P P' : Nat → Nat → Bool} {y : Nat} : ∀ (m x : Nat), (∀ x', x ≤ x' → x' < x + m → P x' y = P' x' y) → gI P y m x = gI P' y m x
  | 0, _, _ => rfl
  | m + 1, x, h => by
    unfold gI
    rw [h x (Nat.le_refl _) (by omega), gI_cg m (x + 1) (fun x' a b => h x' (by omega) (by omega))]
theorem gO_cg {P P' : Nat → Nat → Bool} {R : Nat → Nat} : ∀ (m y : Nat), (∀ y', y ≤ y' → y' < y + m → ∀ x, x < R y' → P x y' = P' x y') → gO P R m y = gO P' R m y
  | 0, _, _ => rfl
  | m + 1, y, h => by
    unfold gO
    rw [gI_cg (R y) 0 (fun x' a b => h y (Nat.le_refl _) (by omega) x' (by omega)), gO_cg m (y + 1) (fun y' a b => h y' (by omega) (by omega))]
theorem gO_cgR {P : Nat → Nat → Bool} {R R' : Nat → Nat} : ∀ (m y : Nat), (∀ y', y ≤ y' → y' < y + m → R y' = R' y') → gO P R m y = gO P R' m y
  | 0, _, _ => rfl
  | m + 1, y, h => by
    unfold gO
    rw [h y (Nat.le_refl _) (by omega), gO_cgR m (y + 1) (fun y' a b => h y' (by omega) (by omega))]
theorem gW_cg {R R' : Nat → Nat} (h : ∀ y, y < 5 → R y = R' y) (x y : Nat) : gW R x y = gW R' x y := by
  unfold gW gM
  rw [h 0 (by decide), h 1 (by decide), h 2 (by decide), h 3 (by decide), h 4 (by decide)]
section GD
variable {d : Nat} {z : xZ} {v : xV} {Q : xZ → xV → xv → Prop} {R : Nat → Nat} {p q : Nat} {L : Nat → Bool}
theorem e_biteI (hq : zh z q = 100) (hq2 : ((zl z q : Nat) : Int) = 5) (hp : zh z p = 102) (hp2 : ((zl z p : Nat) : Int) = 16) (hL : ∀ w, w < 1024 → lbt (zw z p (w / 64)) (w % 64) = L w) (hR : ∀ y, y < 5 → v q y = (R y : Int) ∧ R y ≤ 5) {y : Nat} (hy : y < 5) : ∀ (m x : Nat) (t : List xv), x + m = R y → ∃ t',
    xGo (EvM TB (d + 1)) (TB 168) Q 10 (.inr (.inl q) :: .inr (.inl p) :: .inl y :: .inl x :: t) [] z v = (if gI (fun x y => L (gW R x y)) y m x = -1 then xGo (EvM TB (d + 1)) (TB 168) Q 61 (.inr (.inl q) :: .inr (.inl p) :: .inl y :: .inl (R y : Int) :: t') [] z v else Q z v (.inl (gI (fun x y => L (gW R x y)) y m x))) := by
  obtain ⟨q1, q2⟩ := hR y hy
  have f0 : (0 : Int) ≤ (y : Int) ∧ (y : Int) < 5 := by omega
  intro m
  induction m with
  | zero =>
    intro x t hx
    obtain rfl : x = R y := by omega
    refine ⟨t, ?_⟩
    rw [l_168_10]
    simp -implicitDefEqProofs only [lay_n, lay_i, lay_a, lay_l, x_nil, x_iconst, x_lconst, x_ldc, x_iload, x_aload, x_lload, x_istore, x_astore, x_lstore, x_iinc, x_iadd, x_isub, x_imul, x_idiv, x_irem, x_ineg, x_iand, x_ior, x_ixor, x_ishl, x_ishr, x_iushr, x_i2b, x_i2c, x_i2l, x_l2i, x_ladd, x_lsub, x_lmul, x_land, x_lor, x_lxor, x_ldiv, x_lrem, x_lneg, x_lshl, x_lushr, x_lcmp, x_max, x_min, x_abs, x_labs, x_lmax, x_dupI, x_dupA, x_dup2, x_popI, x_popA, x_goto, x_eq, x_ne, x_lt, x_ge, x_gt, x_le, x_ceq, x_cne, x_clt, x_cge, x_cgt, x_cle, x_sw, x_getI, x_getR, x_putI, x_putZ, x_putR, x_new, x_newI, x_newC, x_newL, x_anew, x_multi, x_alen, x_iald, x_cald, x_bald, x_lald, x_aald, x_iast, x_cast, x_last, x_aast, x_copy, x_obj, x_call, x_callL, x_iret, x_zret, x_cret, x_bret, x_lret, x_ret, ldI_i, ldA_a, ldL_l, nth_0, nth_s, sto_n0, sto_ns, sto_0, sto_i, sto_a, sto_l0, sto_ls, psh_t, psh_f, spl, splL, sh4, rcv, swK, stoL, clr, reduceIte, Int.reduceEq, Int.reduceLT, Int.reduceLE, Int.reduceAdd, Int.reduceSub, Int.reduceNeg, or_true, true_or, or_false, false_or, false_and, and_false, not_false_eq_true, not_true_eq_false, ne_eq, Nat.reduceDiv, Nat.reduceMod, Nat.reduceAdd, Nat.reduceMul, Nat.reduceBEq, Int.reduceToNat, Int.toNat_natCast, Nat.reduceEqDiff, Nat.reduceLT, Nat.reduceLeDiff, beq_self_eq_true, beq_iff_eq, true_and, and_true, Bool.false_eq_true, ite_self, Int.reduceTMod, Int.reduceTDiv, List.tail_cons, List.cons_append, List.nil_append, Nat.zero_add, hq, hq2, q1, f0, show ¬ (R y : Int) < (R y : Int) by omega, gI]
  | succ m ih =>
    intro x t hx
    obtain ⟨g1, -⟩ := @e_bitten d z v (fun _ _ _ => True) R q hq hq2 hR x y (by omega) hy
    have g2 := fun Q => (@e_bitten d z v Q R q hq hq2 hR x y (by omega) hy).2
    obtain ⟨b1, b2, b3⟩ := bI_eq g1
    have hl := hL _ g1
    have e2 : wr (wr (10 * (y : Int)) + (x : Int)) = ((10 * y + x : Nat) : Int) := by clear b1 b2 b3 g2; rw [wr_p (k := 10 * (y : Int)) (by omega) (by omega), wr_p (by omega) (by omega)]; omega
    have f1 : (x : Int) < (R y : Int) := by clear e2 b1 b2 b3 g2; omega
    have f2 : (0 : Int) ≤ ((gW R x y / 64 : Nat) : Int) ∧ ((gW R x y / 64 : Nat) : Int) < 16 := by clear e2 b1 b2 b3 g2; omega
    have f3 := wr_s (show x < 1000000 by clear e2 b1 b2 b3 g2; omega)
    have f4 : ¬ ((10 * y + x : Nat) : Int) = -1 := by clear e2 b1 b2 b3 g2 f3; omega
    have tst := @lbt_tst (zw z p (gW R x y / 64)) (gW R x y % 64) (Nat.mod_lt _ (by decide))
    rw [hl] at tst
    obtain ⟨t', ht'⟩ := ih (x + 1) (.inl (gW R x y : Int) :: t.tail) (by clear e2 b1 b2 b3 g2 f3; omega)
    refine ⟨t', ?_⟩
    rw [l_168_10]
    rw [show gI (fun x y => L (gW R x y)) y (m + 1) x = (bif L (gW R x y) then ((10 * y + x : Nat) : Int) else gI (fun x y => L (gW R x y)) y m (x + 1)) from rfl]
    cases hg : L (gW R x y) with
    | false =>
      rw [hg] at tst
      have t1 := tst.mpr rfl
      simp -implicitDefEqProofs only [lay_n, lay_i, lay_a, lay_l, x_nil, x_iconst, x_lconst, x_ldc, x_iload, x_aload, x_lload, x_istore, x_astore, x_lstore, x_iinc, x_iadd, x_isub, x_imul, x_idiv, x_irem, x_ineg, x_iand, x_ior, x_ixor, x_ishl, x_ishr, x_iushr, x_i2b, x_i2c, x_i2l, x_l2i, x_ladd, x_lsub, x_lmul, x_land, x_lor, x_lxor, x_ldiv, x_lrem, x_lneg, x_lshl, x_lushr, x_lcmp, x_max, x_min, x_abs, x_labs, x_lmax, x_dupI, x_dupA, x_dup2, x_popI, x_popA, x_goto, x_eq, x_ne, x_lt, x_ge, x_gt, x_le, x_ceq, x_cne, x_clt, x_cge, x_cgt, x_cle, x_sw, x_getI, x_getR, x_putI, x_putZ, x_putR, x_new, x_newI, x_newC, x_newL, x_anew, x_multi, x_alen, x_iald, x_cald, x_bald, x_lald, x_aald, x_iast, x_cast, x_last, x_aast, x_copy, x_obj, x_call, x_callL, x_iret, x_zret, x_cret, x_bret, x_lret, x_ret, ldI_i, ldA_a, ldL_l, nth_0, nth_s, sto_n0, sto_ns, sto_0, sto_i, sto_a, sto_l0, sto_ls, psh_t, psh_f, spl, splL, sh4, rcv, swK, stoL, clr, reduceIte, Int.reduceEq, Int.reduceLT, Int.reduceLE, Int.reduceAdd, Int.reduceSub, Int.reduceNeg, or_true, true_or, or_false, false_or, false_and, and_false, not_false_eq_true, not_true_eq_false, ne_eq, Nat.reduceDiv, Nat.reduceMod, Nat.reduceAdd, Nat.reduceMul, Nat.reduceBEq, Int.reduceToNat, Int.toNat_natCast, Nat.reduceEqDiff, Nat.reduceLT, Nat.reduceLeDiff, beq_self_eq_true, beq_iff_eq, true_and, and_true, Bool.false_eq_true, ite_self, Int.reduceTMod, Int.reduceTDiv, List.tail_cons, List.cons_append, List.nil_append, Nat.zero_add, g_168_55, hq, hq2, hp, hp2, q1, f0, f1, f2, g2, b1, b2, b3, sto_t, t1, f3]
      exact ht'
    | true =>
      rw [hg] at tst
      have t1 : ¬ _ := fun q => absurd (tst.mp q) (by decide)
      simp -implicitDefEqProofs only [lay_n, lay_i, lay_a, lay_l, x_nil, x_iconst, x_lconst, x_ldc, x_iload, x_aload, x_lload, x_istore, x_astore, x_lstore, x_iinc, x_iadd, x_isub, x_imul, x_idiv, x_irem, x_ineg, x_iand, x_ior, x_ixor, x_ishl, x_ishr, x_iushr, x_i2b, x_i2c, x_i2l, x_l2i, x_ladd, x_lsub, x_lmul, x_land, x_lor, x_lxor, x_ldiv, x_lrem, x_lneg, x_lshl, x_lushr, x_lcmp, x_max, x_min, x_abs, x_labs, x_lmax, x_dupI, x_dupA, x_dup2, x_popI, x_popA, x_goto, x_eq, x_ne, x_lt, x_ge, x_gt, x_le, x_ceq, x_cne, x_clt, x_cge, x_cgt, x_cle, x_sw, x_getI, x_getR, x_putI, x_putZ, x_putR, x_new, x_newI, x_newC, x_newL, x_anew, x_multi, x_alen, x_iald, x_cald, x_bald, x_lald, x_aald, x_iast, x_cast, x_last, x_aast, x_copy, x_obj, x_call, x_callL, x_iret, x_zret, x_cret, x_bret, x_lret, x_ret, ldI_i, ldA_a, ldL_l, nth_0, nth_s, sto_n0, sto_ns, sto_0, sto_i, sto_a, sto_l0, sto_ls, psh_t, psh_f, spl, splL, sh4, rcv, swK, stoL, clr, reduceIte, Int.reduceEq, Int.reduceLT, Int.reduceLE, Int.reduceAdd, Int.reduceSub, Int.reduceNeg, or_true, true_or, or_false, false_or, false_and, and_false, not_false_eq_true, not_true_eq_false, ne_eq, Nat.reduceDiv, Nat.reduceMod, Nat.reduceAdd, Nat.reduceMul, Nat.reduceBEq, Int.reduceToNat, Int.toNat_natCast, Nat.reduceEqDiff, Nat.reduceLT, Nat.reduceLeDiff, beq_self_eq_true, beq_iff_eq, true_and, and_true, Bool.false_eq_true, ite_self, Int.reduceTMod, Int.reduceTDiv, List.tail_cons, List.cons_append, List.nil_append, Nat.zero_add, g_168_55, hq, hq2, hp, hp2, q1, f0, f1, f2, g2, b1, b2, b3, sto_t, eq_false t1, e2]
      rw [cond_true, if_neg f4]
theorem e_biteO (hq : zh z q = 100) (hq2 : ((zl z q : Nat) : Int) = 5) (hp : zh z p = 102) (hp2 : ((zl z p : Nat) : Int) = 16) (hL : ∀ w, w < 1024 → lbt (zw z p (w / 64)) (w % 64) = L w) (hR : ∀ y, y < 5 → v q y = (R y : Int) ∧ R y ≤ 5) : ∀ (m y : Nat) (t : List xv), y + m = 5 →
    xGo (EvM TB (d + 1)) (TB 168) Q 2 (.inr (.inl q) :: .inr (.inl p) :: .inl y :: t) [] z v = Q z v (.inl (gO (fun x y => L (gW R x y)) R m y)) := by
  intro m
  induction m with
  | zero =>
    intro y t hy
    obtain rfl : y = 5 := by omega
    rw [l_168_2]
    simp -implicitDefEqProofs only [lay_n, lay_i, lay_a, lay_l, x_nil, x_iconst, x_lconst, x_ldc, x_iload, x_aload, x_lload, x_istore, x_astore, x_lstore, x_iinc, x_iadd, x_isub, x_imul, x_idiv, x_irem, x_ineg, x_iand, x_ior, x_ixor, x_ishl, x_ishr, x_iushr, x_i2b, x_i2c, x_i2l, x_l2i, x_ladd, x_lsub, x_lmul, x_land, x_lor, x_lxor, x_ldiv, x_lrem, x_lneg, x_lshl, x_lushr, x_lcmp, x_max, x_min, x_abs, x_labs, x_lmax, x_dupI, x_dupA, x_dup2, x_popI, x_popA, x_goto, x_eq, x_ne, x_lt, x_ge, x_gt, x_le, x_ceq, x_cne, x_clt, x_cge, x_cgt, x_cle, x_sw, x_getI, x_getR, x_putI, x_putZ, x_putR, x_new, x_newI, x_newC, x_newL, x_anew, x_multi, x_alen, x_iald, x_cald, x_bald, x_lald, x_aald, x_iast, x_cast, x_last, x_aast, x_copy, x_obj, x_call, x_callL, x_iret, x_zret, x_cret, x_bret, x_lret, x_ret, ldI_i, ldA_a, ldL_l, nth_0, nth_s, sto_n0, sto_ns, sto_0, sto_i, sto_a, sto_l0, sto_ls, psh_t, psh_f, spl, splL, sh4, rcv, swK, stoL, clr, reduceIte, Int.reduceEq, Int.reduceLT, Int.reduceLE, Int.reduceAdd, Int.reduceSub, Int.reduceNeg, or_true, true_or, or_false, false_or, false_and, and_false, not_false_eq_true, not_true_eq_false, ne_eq, Nat.reduceDiv, Nat.reduceMod, Nat.reduceAdd, Nat.reduceMul, Nat.reduceBEq, Int.reduceToNat, Int.toNat_natCast, Nat.reduceEqDiff, Nat.reduceLT, Nat.reduceLeDiff, beq_self_eq_true, beq_iff_eq, true_and, and_true, Bool.false_eq_true, ite_self, Int.reduceTMod, Int.reduceTDiv, List.tail_cons, List.cons_append, List.nil_append, Nat.zero_add, g_168_0, g_168_55, g_168_61, g_168_67, hq, hq2, show ¬ ((5 : Nat) : Int) < 5 by decide, gO]
  | succ m ih =>
    intro y t hy
    rw [l_168_2]
    simp -implicitDefEqProofs only [lay_n, lay_i, lay_a, lay_l, x_nil, x_iconst, x_lconst, x_ldc, x_iload, x_aload, x_lload, x_istore, x_astore, x_lstore, x_iinc, x_iadd, x_isub, x_imul, x_idiv, x_irem, x_ineg, x_iand, x_ior, x_ixor, x_ishl, x_ishr, x_iushr, x_i2b, x_i2c, x_i2l, x_l2i, x_ladd, x_lsub, x_lmul, x_land, x_lor, x_lxor, x_ldiv, x_lrem, x_lneg, x_lshl, x_lushr, x_lcmp, x_max, x_min, x_abs, x_labs, x_lmax, x_dupI, x_dupA, x_dup2, x_popI, x_popA, x_goto, x_eq, x_ne, x_lt, x_ge, x_gt, x_le, x_ceq, x_cne, x_clt, x_cge, x_cgt, x_cle, x_sw, x_getI, x_getR, x_putI, x_putZ, x_putR, x_new, x_newI, x_newC, x_newL, x_anew, x_multi, x_alen, x_iald, x_cald, x_bald, x_lald, x_aald, x_iast, x_cast, x_last, x_aast, x_copy, x_obj, x_call, x_callL, x_iret, x_zret, x_cret, x_bret, x_lret, x_ret, ldI_i, ldA_a, ldL_l, nth_0, nth_s, sto_n0, sto_ns, sto_0, sto_i, sto_a, sto_l0, sto_ls, psh_t, psh_f, spl, splL, sh4, rcv, swK, stoL, clr, reduceIte, Int.reduceEq, Int.reduceLT, Int.reduceLE, Int.reduceAdd, Int.reduceSub, Int.reduceNeg, or_true, true_or, or_false, false_or, false_and, and_false, not_false_eq_true, not_true_eq_false, ne_eq, Nat.reduceDiv, Nat.reduceMod, Nat.reduceAdd, Nat.reduceMul, Nat.reduceBEq, Int.reduceToNat, Int.toNat_natCast, Nat.reduceEqDiff, Nat.reduceLT, Nat.reduceLeDiff, beq_self_eq_true, beq_iff_eq, true_and, and_true, Bool.false_eq_true, ite_self, Int.reduceTMod, Int.reduceTDiv, List.tail_cons, List.cons_append, List.nil_append, Nat.zero_add, hq, hq2, show (y : Int) < 5 by omega, sto_t]
    obtain ⟨t', ht'⟩ := @e_biteI d z v Q R p q L hq hq2 hp hp2 hL hR y (by omega) (R y) 0 t.tail (by omega)
    refine ht'.trans ?_
    rw [gO]
    by_cases c : gI (fun x y => L (gW R x y)) y (R y) 0 = -1
    · rw [if_pos c, if_pos c]
      simp -implicitDefEqProofs only [lay_n, lay_i, lay_a, lay_l, x_nil, x_iconst, x_lconst, x_ldc, x_iload, x_aload, x_lload, x_istore, x_astore, x_lstore, x_iinc, x_iadd, x_isub, x_imul, x_idiv, x_irem, x_ineg, x_iand, x_ior, x_ixor, x_ishl, x_ishr, x_iushr, x_i2b, x_i2c, x_i2l, x_l2i, x_ladd, x_lsub, x_lmul, x_land, x_lor, x_lxor, x_ldiv, x_lrem, x_lneg, x_lshl, x_lushr, x_lcmp, x_max, x_min, x_abs, x_labs, x_lmax, x_dupI, x_dupA, x_dup2, x_popI, x_popA, x_goto, x_eq, x_ne, x_lt, x_ge, x_gt, x_le, x_ceq, x_cne, x_clt, x_cge, x_cgt, x_cle, x_sw, x_getI, x_getR, x_putI, x_putZ, x_putR, x_new, x_newI, x_newC, x_newL, x_anew, x_multi, x_alen, x_iald, x_cald, x_bald, x_lald, x_aald, x_iast, x_cast, x_last, x_aast, x_copy, x_obj, x_call, x_callL, x_iret, x_zret, x_cret, x_bret, x_lret, x_ret, ldI_i, ldA_a, ldL_l, nth_0, nth_s, sto_n0, sto_ns, sto_0, sto_i, sto_a, sto_l0, sto_ls, psh_t, psh_f, spl, splL, sh4, rcv, swK, stoL, clr, reduceIte, Int.reduceEq, Int.reduceLT, Int.reduceLE, Int.reduceAdd, Int.reduceSub, Int.reduceNeg, or_true, true_or, or_false, false_or, false_and, and_false, not_false_eq_true, not_true_eq_false, ne_eq, Nat.reduceDiv, Nat.reduceMod, Nat.reduceAdd, Nat.reduceMul, Nat.reduceBEq, Int.reduceToNat, Int.toNat_natCast, Nat.reduceEqDiff, Nat.reduceLT, Nat.reduceLeDiff, beq_self_eq_true, beq_iff_eq, true_and, and_true, Bool.false_eq_true, ite_self, Int.reduceTMod, Int.reduceTDiv, List.tail_cons, List.cons_append, List.nil_append, Nat.zero_add, g_168_0, g_168_55, g_168_61, g_168_67, wr_s (show y < 1000000 by omega)]
      exact ih (y + 1) _ (by omega)
    · rw [if_neg c, if_neg c]
theorem e_bite (hq : zh z q = 100) (hq2 : ((zl z q : Nat) : Int) = 5) (hp : zh z p = 102) (hp2 : ((zl z p : Nat) : Int) = 16) (hL : ∀ w, w < 1024 → lbt (zw z p (w / 64)) (w % 64) = L w) (hR : ∀ y, y < 5 → v q y = (R y : Int) ∧ R y ≤ 5) : EvM TB (d + 2) 168 z v [.inr (.inl q), .inr (.inl p)] Q = Q z v (.inl (gO (fun x y => L (gW R x y)) R 5 0)) := by
  rw [e_ev]
  simp -implicitDefEqProofs only [lay_n, lay_i, lay_a, lay_l, x_nil, x_iconst, x_lconst, x_ldc, x_iload, x_aload, x_lload, x_istore, x_astore, x_lstore, x_iinc, x_iadd, x_isub, x_imul, x_idiv, x_irem, x_ineg, x_iand, x_ior, x_ixor, x_ishl, x_ishr, x_iushr, x_i2b, x_i2c, x_i2l, x_l2i, x_ladd, x_lsub, x_lmul, x_land, x_lor, x_lxor, x_ldiv, x_lrem, x_lneg, x_lshl, x_lushr, x_lcmp, x_max, x_min, x_abs, x_labs, x_lmax, x_dupI, x_dupA, x_dup2, x_popI, x_popA, x_goto, x_eq, x_ne, x_lt, x_ge, x_gt, x_le, x_ceq, x_cne, x_clt, x_cge, x_cgt, x_cle, x_sw, x_getI, x_getR, x_putI, x_putZ, x_putR, x_new, x_newI, x_newC, x_newL, x_anew, x_multi, x_alen, x_iald, x_cald, x_bald, x_lald, x_aald, x_iast, x_cast, x_last, x_aast, x_copy, x_obj, x_call, x_callL, x_iret, x_zret, x_cret, x_bret, x_lret, x_ret, ldI_i, ldA_a, ldL_l, nth_0, nth_s, sto_n0, sto_ns, sto_0, sto_i, sto_a, sto_l0, sto_ls, psh_t, psh_f, spl, splL, sh4, rcv, swK, stoL, clr, reduceIte, Int.reduceEq, Int.reduceLT, Int.reduceLE, Int.reduceAdd, Int.reduceSub, Int.reduceNeg, or_true, true_or, or_false, false_or, false_and, and_false, not_false_eq_true, not_true_eq_false, ne_eq, Nat.reduceDiv, Nat.reduceMod, Nat.reduceAdd, Nat.reduceMul, Nat.reduceBEq, Int.reduceToNat, Int.toNat_natCast, Nat.reduceEqDiff, Nat.reduceLT, Nat.reduceLeDiff, beq_self_eq_true, beq_iff_eq, true_and, and_true, Bool.false_eq_true, ite_self, Int.reduceTMod, Int.reduceTDiv, List.tail_cons, List.cons_append, List.nil_append, Nat.zero_add, g_168_0, g_168_55, g_168_61, g_168_67]
  exact e_biteO hq hq2 hp hp2 hL hR 5 0 [] (by omega)
end GD
