/-! ===== game: class, the call ===== -/
def zf (z : xZ) (f : Nat → Nat → Int64) : xZ := (z.1, z.2.1, z.2.2.1, z.2.2.2.1, z.2.2.2.2.1, f)
theorem zf_w (z : xZ) (f : Nat → Nat → Int64) (a k : Nat) (x : Int64) : upW (zf z f) a k x = zf z (fun a' k' => if a' = a ∧ k' = k then x else f a' k') := rfl
theorem g_k2' {w : Nat} (hw : w < 1024) : (gPc w = 5 ∧ 32 ≤ w → gLs w = decide (gO (gPC (gTl w 10).2) (gTl w 10).2 5 0 = -1) ∧ ∀ y, y < 5 → (gTl w 10).2 y ≤ 5 ∧ ∀ x, x < (gTl w 10).2 y → gW (gTl w 10).2 x y < w) ∧ (¬ (gPc w = 5 ∧ 32 ≤ w) → gLs w = false) := by
  have h := allB_spec g_k2 w hw
  unfold gK2 at h
  constructor
  · rintro ⟨h1, h2⟩
    rw [h1, Nat.ble_eq_true_of_le h2] at h
    have h' : ((gLs w == decide (gO (gPC (gTl w 10).2) (gTl w 10).2 5 0 = -1)) && (allB 5 fun y => (Nat.ble ((gTl w 10).2 y) 5) && allB ((gTl w 10).2 y) fun x => Nat.ble (gW (gTl w 10).2 x y + 1) w) && Nat.beq (gTl w 10).1 5) = true := h
    simp -implicitDefEqProofs only [Bool.and_eq_true] at h'
    refine ⟨eq_of_beq h'.1.1, fun y hy => ?_⟩
    have h3 := allB_spec h'.1.2 y hy
    simp -implicitDefEqProofs only [Bool.and_eq_true] at h3
    exact ⟨Nat.le_of_ble_eq_true h3.1, fun x hx => Nat.le_of_ble_eq_true (allB_spec h3.2 x hx)⟩
  · intro hn
    have : (Nat.beq (gPc w) 5 && Nat.ble 32 w) = false := by
      cases hh : (Nat.beq (gPc w) 5 && Nat.ble 32 w) with
      | true =>
        simp -implicitDefEqProofs only [Bool.and_eq_true] at hh
        exact absurd ⟨Nat.eq_of_beq_eq_true hh.1, Nat.le_of_ble_eq_true hh.2⟩ hn
      | false => rfl
    rw [this, cond_false] at h
    simpa using h
section GE
variable {d : Nat} {z : xZ} {v : xV} {Q : xZ → xV → xv → Prop} {p q : Nat}
theorem e_wsL (hq : zh z q = 100) (hq2 : ((zl z q : Nat) : Int) = 5) (hp : zh z p = 102) (hp2 : ((zl z p : Nat) : Int) = 16) {x : Int} {W code : Nat} (hc : code < 7776) (hA : gA (g6 code) = true) (hW : W = gWd (g6 code)) (hQ : ∀ (u : xV) (f : Nat → Nat → Int64), (∀ a, a ≠ q → u a = v a) → Q (zf z f) u (.inl (gO (gPM (g6 code)) (g6 code) 5 0))) : ∀ (m w : Nat) (u : xV) (f : Nat → Nat → Int64), w + m = max W 32 → 32 ≤ w → (∀ a, a ≠ q → u a = v a) → (∀ w', w' < 1024 → lbt (f p (w' / 64)) (w' % 64) = (decide (w' < w) && gLs w')) →
    xGo (EvM TB (d + 2)) (TB 164) Q 18 [.inl x, .inl W, .inr (.inl p), .inr (.inl q), .inl w] [] (zf z f) u := by
  obtain ⟨-, -, k3, k4, k5, k6, k7⟩ := (g_k1' hc).1 hA
  rw [← hW] at k4 k5 k6 k7
  intro m
  induction m with
  | zero =>
    intro w u f hm hw hf hL
    have hbite : ∀ y, y < 5 → ∀ x, x < g6 code y → gW (g6 code) x y < W ∧ gW (g6 code) x y < 1024 := by
      intro y hy x hx
      by_cases c : 32 ≤ W
      · have h1 := ((g_k2' (show W < 1024 by omega)).1 ⟨k5, c⟩).2 y hy
        have h2 := h1.2 x (by rw [k4 y hy]; exact hx)
        rw [gW_cg k4] at h2
        exact ⟨h2, by omega⟩
      · have hW31 : W = 31 := by omega
        have h0 := k4 y hy
        rw [hW31] at h0
        have : (gTl 31 10).2 y = 0 := by
          rcases (by omega : y = 0 ∨ y = 1 ∨ y = 2 ∨ y = 3 ∨ y = 4) with rfl | rfl | rfl | rfl | rfl <;> decide
        omega
    rw [l_164_18]
    simp -implicitDefEqProofs only [lay_n, lay_i, lay_a, lay_l, x_nil, x_iconst, x_lconst, x_ldc, x_iload, x_aload, x_lload, x_istore, x_astore, x_lstore, x_iinc, x_iadd, x_isub, x_imul, x_idiv, x_irem, x_ineg, x_iand, x_ior, x_ixor, x_ishl, x_ishr, x_iushr, x_i2b, x_i2c, x_i2l, x_l2i, x_ladd, x_lsub, x_lmul, x_land, x_lor, x_lxor, x_ldiv, x_lrem, x_lneg, x_lshl, x_lushr, x_lcmp, x_max, x_min, x_abs, x_labs, x_lmax, x_dupI, x_dupA, x_dup2, x_popI, x_popA, x_goto, x_eq, x_ne, x_lt, x_ge, x_gt, x_le, x_ceq, x_cne, x_clt, x_cge, x_cgt, x_cle, x_sw, x_getI, x_getR, x_putI, x_putZ, x_putR, x_new, x_newI, x_newC, x_newL, x_anew, x_multi, x_alen, x_iald, x_cald, x_bald, x_lald, x_aald, x_iast, x_cast, x_last, x_aast, x_copy, x_obj, x_call, x_callL, x_iret, x_zret, x_cret, x_bret, x_lret, x_ret, ldI_i, ldA_a, ldL_l, nth_0, nth_s, sto_n0, sto_ns, sto_0, sto_i, sto_a, sto_l0, sto_ls, psh_t, psh_f, spl, splL, sh4, rcv, swK, stoL, clr, reduceIte, Int.reduceEq, Int.reduceLT, Int.reduceLE, Int.reduceAdd, Int.reduceSub, Int.reduceNeg, or_true, true_or, or_false, false_or, false_and, and_false, not_false_eq_true, not_true_eq_false, ne_eq, Nat.reduceDiv, Nat.reduceMod, Nat.reduceAdd, Nat.reduceMul, Nat.reduceBEq, Int.reduceToNat, Int.toNat_natCast, Nat.reduceEqDiff, Nat.reduceLT, Nat.reduceLeDiff, beq_self_eq_true, beq_iff_eq, true_and, and_true, Bool.false_eq_true, ite_self, Int.reduceTMod, Int.reduceTDiv, List.tail_cons, List.cons_append, List.nil_append, Nat.zero_add, g_164_0, g_164_65, g_164_71, show ¬ (w : Int) < (W : Int) by omega]
    refine e_tl (z := zf z f) hq hq2 (by omega) k5 (fun u' f1 f2 => ?_)
    rw [e_bite (z := zf z f) (L := fun w' => decide (w' < w) && gLs w') (R := g6 code) hq hq2 hp hp2 hL (fun y hy => ⟨by rw [f2 y hy, k4 y hy], g6_le code y⟩)]
    simp -implicitDefEqProofs only [lay_n, lay_i, lay_a, lay_l, x_nil, x_iconst, x_lconst, x_ldc, x_iload, x_aload, x_lload, x_istore, x_astore, x_lstore, x_iinc, x_iadd, x_isub, x_imul, x_idiv, x_irem, x_ineg, x_iand, x_ior, x_ixor, x_ishl, x_ishr, x_iushr, x_i2b, x_i2c, x_i2l, x_l2i, x_ladd, x_lsub, x_lmul, x_land, x_lor, x_lxor, x_ldiv, x_lrem, x_lneg, x_lshl, x_lushr, x_lcmp, x_max, x_min, x_abs, x_labs, x_lmax, x_dupI, x_dupA, x_dup2, x_popI, x_popA, x_goto, x_eq, x_ne, x_lt, x_ge, x_gt, x_le, x_ceq, x_cne, x_clt, x_cge, x_cgt, x_cle, x_sw, x_getI, x_getR, x_putI, x_putZ, x_putR, x_new, x_newI, x_newC, x_newL, x_anew, x_multi, x_alen, x_iald, x_cald, x_bald, x_lald, x_aald, x_iast, x_cast, x_last, x_aast, x_copy, x_obj, x_call, x_callL, x_iret, x_zret, x_cret, x_bret, x_lret, x_ret, ldI_i, ldA_a, ldL_l, nth_0, nth_s, sto_n0, sto_ns, sto_0, sto_i, sto_a, sto_l0, sto_ls, psh_t, psh_f, spl, splL, sh4, rcv, swK, stoL, clr, reduceIte, Int.reduceEq, Int.reduceLT, Int.reduceLE, Int.reduceAdd, Int.reduceSub, Int.reduceNeg, or_true, true_or, or_false, false_or, false_and, and_false, not_false_eq_true, not_true_eq_false, ne_eq, Nat.reduceDiv, Nat.reduceMod, Nat.reduceAdd, Nat.reduceMul, Nat.reduceBEq, Int.reduceToNat, Int.toNat_natCast, Nat.reduceEqDiff, Nat.reduceLT, Nat.reduceLeDiff, beq_self_eq_true, beq_iff_eq, true_and, and_true, Bool.false_eq_true, ite_self, Int.reduceTMod, Int.reduceTDiv, List.tail_cons, List.cons_append, List.nil_append, Nat.zero_add]
    have e : gO (fun x y => decide (gW (g6 code) x y < w) && gLs (gW (g6 code) x y)) (g6 code) 5 0 = gO (gPM (g6 code)) (g6 code) 5 0 := by
      rw [← k3]
      refine gO_cg 5 0 (fun y' _ hy x hx => ?_)
      have := (hbite y' (by omega) x hx).1
      rw [decide_eq_true (show gW (g6 code) x y' < w by omega), Bool.true_and]
      rfl
    rw [e]
    exact hQ u' f (fun a ha => (f1 a ha).trans (hf a ha))
  | succ m ih =>
    intro w u f hm hw hf hL
    have hwW : w < W := by omega
    have hw1 : w < 1024 := by omega
    obtain ⟨b1, b2, b3⟩ := bI_eq hw1
    have f1' := wr_s (show w < 1000000 by clear b1 b2 b3; omega)
    have f2' : (w : Int) < (W : Int) := by clear b1 b2 b3 f1'; omega
    rw [l_164_18]
    have nxt : ∀ (u' : xV), (∀ a, a ≠ q → u' a = v a) → gLs w = false → xGo (EvM TB (d + 2)) (TB 164) Q 18 [.inl x, .inl W, .inr (.inl p), .inr (.inl q), .inl ((w + 1 : Nat) : Int)] [] (zf z f) u' := by
      intro u' g1 g2
      clear b1 b2 b3 f1'
      refine ih (w + 1) u' f (by omega) (by omega) g1 (fun w' hw' => ?_)
      rw [hL w' hw']
      by_cases e : w' = w
      · rw [e, g2, Bool.and_false, Bool.and_false]
      · congr 1
        exact decide_eq_decide.mpr (by omega)
    by_cases c5 : gPc w = 5
    · obtain ⟨j1, j2⟩ := (g_k2' hw1).1 ⟨c5, hw⟩
      simp -implicitDefEqProofs only [lay_n, lay_i, lay_a, lay_l, x_nil, x_iconst, x_lconst, x_ldc, x_iload, x_aload, x_lload, x_istore, x_astore, x_lstore, x_iinc, x_iadd, x_isub, x_imul, x_idiv, x_irem, x_ineg, x_iand, x_ior, x_ixor, x_ishl, x_ishr, x_iushr, x_i2b, x_i2c, x_i2l, x_l2i, x_ladd, x_lsub, x_lmul, x_land, x_lor, x_lxor, x_ldiv, x_lrem, x_lneg, x_lshl, x_lushr, x_lcmp, x_max, x_min, x_abs, x_labs, x_lmax, x_dupI, x_dupA, x_dup2, x_popI, x_popA, x_goto, x_eq, x_ne, x_lt, x_ge, x_gt, x_le, x_ceq, x_cne, x_clt, x_cge, x_cgt, x_cle, x_sw, x_getI, x_getR, x_putI, x_putZ, x_putR, x_new, x_newI, x_newC, x_newL, x_anew, x_multi, x_alen, x_iald, x_cald, x_bald, x_lald, x_aald, x_iast, x_cast, x_last, x_aast, x_copy, x_obj, x_call, x_callL, x_iret, x_zret, x_cret, x_bret, x_lret, x_ret, ldI_i, ldA_a, ldL_l, nth_0, nth_s, sto_n0, sto_ns, sto_0, sto_i, sto_a, sto_l0, sto_ls, psh_t, psh_f, spl, splL, sh4, rcv, swK, stoL, clr, reduceIte, Int.reduceEq, Int.reduceLT, Int.reduceLE, Int.reduceAdd, Int.reduceSub, Int.reduceNeg, or_true, true_or, or_false, false_or, false_and, and_false, not_false_eq_true, not_true_eq_false, ne_eq, Nat.reduceDiv, Nat.reduceMod, Nat.reduceAdd, Nat.reduceMul, Nat.reduceBEq, Int.reduceToNat, Int.toNat_natCast, Nat.reduceEqDiff, Nat.reduceLT, Nat.reduceLeDiff, beq_self_eq_true, beq_iff_eq, true_and, and_true, Bool.false_eq_true, ite_self, Int.reduceTMod, Int.reduceTDiv, List.tail_cons, List.cons_append, List.nil_append, Nat.zero_add, f2', e_bitC hw1, c5, show ((5 : Nat) : Int) = 5 from rfl]
      refine e_tl (z := zf z f) hq hq2 hw1 c5 (fun u' g1 g2 => ?_)
      have hu' : ∀ a, a ≠ q → u' a = v a := fun a ha => (g1 a ha).trans (hf a ha)
      rw [e_bite (z := zf z f) (L := fun w' => decide (w' < w) && gLs w') (R := (gTl w 10).2) hq hq2 hp hp2 hL (fun y hy => ⟨g2 y hy, (j2 y hy).1⟩)]
      have e : gO (fun x y => decide (gW (gTl w 10).2 x y < w) && gLs (gW (gTl w 10).2 x y)) (gTl w 10).2 5 0 = gO (gPC (gTl w 10).2) (gTl w 10).2 5 0 := by
        refine gO_cg 5 0 (fun y' _ hy x hx => ?_)
        have := (j2 y' (by clear b1 b2 b3 f1'; omega)).2 x hx
        rw [decide_eq_true this, Bool.true_and]
        rfl
      rw [e]
      by_cases cb : gO (gPC (gTl w 10).2) (gTl w 10).2 5 0 = -1
      · rw [decide_eq_true cb] at j1
        have f3' : (0 : Int) ≤ ((w / 64 : Nat) : Int) ∧ ((w / 64 : Nat) : Int) < 16 := by clear b1 b2 b3 f1'; omega
        have hp' : zh (zf z f) p = 102 := hp
        have hp2' : ((zl (zf z f) p : Nat) : Int) = 16 := hp2
        simp -implicitDefEqProofs only [lay_n, lay_i, lay_a, lay_l, x_nil, x_iconst, x_lconst, x_ldc, x_iload, x_aload, x_lload, x_istore, x_astore, x_lstore, x_iinc, x_iadd, x_isub, x_imul, x_idiv, x_irem, x_ineg, x_iand, x_ior, x_ixor, x_ishl, x_ishr, x_iushr, x_i2b, x_i2c, x_i2l, x_l2i, x_ladd, x_lsub, x_lmul, x_land, x_lor, x_lxor, x_ldiv, x_lrem, x_lneg, x_lshl, x_lushr, x_lcmp, x_max, x_min, x_abs, x_labs, x_lmax, x_dupI, x_dupA, x_dup2, x_popI, x_popA, x_goto, x_eq, x_ne, x_lt, x_ge, x_gt, x_le, x_ceq, x_cne, x_clt, x_cge, x_cgt, x_cle, x_sw, x_getI, x_getR, x_putI, x_putZ, x_putR, x_new, x_newI, x_newC, x_newL, x_anew, x_multi, x_alen, x_iald, x_cald, x_bald, x_lald, x_aald, x_iast, x_cast, x_last, x_aast, x_copy, x_obj, x_call, x_callL, x_iret, x_zret, x_cret, x_bret, x_lret, x_ret, ldI_i, ldA_a, ldL_l, nth_0, nth_s, sto_n0, sto_ns, sto_0, sto_i, sto_a, sto_l0, sto_ls, psh_t, psh_f, spl, splL, sh4, rcv, swK, stoL, clr, reduceIte, Int.reduceEq, Int.reduceLT, Int.reduceLE, Int.reduceAdd, Int.reduceSub, Int.reduceNeg, or_true, true_or, or_false, false_or, false_and, and_false, not_false_eq_true, not_true_eq_false, ne_eq, Nat.reduceDiv, Nat.reduceMod, Nat.reduceAdd, Nat.reduceMul, Nat.reduceBEq, Int.reduceToNat, Int.toNat_natCast, Nat.reduceEqDiff, Nat.reduceLT, Nat.reduceLeDiff, beq_self_eq_true, beq_iff_eq, true_and, and_true, Bool.false_eq_true, ite_self, Int.reduceTMod, Int.reduceTDiv, List.tail_cons, List.cons_append, List.nil_append, Nat.zero_add, g_164_0, g_164_65, g_164_71, cb, hp', hp2', b1, b3, f3', f1', zf_w]
        clear b1 b2 b3 f1'
        refine ih (w + 1) u' _ (by omega) (by omega) hu' (fun w' hw' => ?_)
        show lbt (if p = p ∧ w' / 64 = w / 64 then _ else f p (w' / 64)) (w' % 64) = _
        by_cases e1 : w' / 64 = w / 64
        · rw [if_pos ⟨rfl, e1⟩]
          have h0 := hL w' hw'
          have h1 : zw (zf z f) p (w / 64) = f p (w / 64) := rfl
          rw [h1, lbt_set (Nat.mod_lt _ (by decide)) (Nat.mod_lt _ (by decide)), ← e1, h0]
          by_cases e2 : w' = w
          · rw [e2, j1, decide_eq_false (show ¬ w < w by omega), decide_eq_true (show w < w + 1 by omega), decide_eq_true rfl]
            rfl
          · rw [decide_eq_false (show ¬ w' % 64 = w % 64 by omega), Bool.or_false]
            congr 1
            exact decide_eq_decide.mpr (by omega)
        · rw [if_neg (fun q => e1 q.2), hL w' hw']
          congr 1
          exact decide_eq_decide.mpr (by omega)
      · rw [decide_eq_false cb] at j1
        simp -implicitDefEqProofs only [lay_n, lay_i, lay_a, lay_l, x_nil, x_iconst, x_lconst, x_ldc, x_iload, x_aload, x_lload, x_istore, x_astore, x_lstore, x_iinc, x_iadd, x_isub, x_imul, x_idiv, x_irem, x_ineg, x_iand, x_ior, x_ixor, x_ishl, x_ishr, x_iushr, x_i2b, x_i2c, x_i2l, x_l2i, x_ladd, x_lsub, x_lmul, x_land, x_lor, x_lxor, x_ldiv, x_lrem, x_lneg, x_lshl, x_lushr, x_lcmp, x_max, x_min, x_abs, x_labs, x_lmax, x_dupI, x_dupA, x_dup2, x_popI, x_popA, x_goto, x_eq, x_ne, x_lt, x_ge, x_gt, x_le, x_ceq, x_cne, x_clt, x_cge, x_cgt, x_cle, x_sw, x_getI, x_getR, x_putI, x_putZ, x_putR, x_new, x_newI, x_newC, x_newL, x_anew, x_multi, x_alen, x_iald, x_cald, x_bald, x_lald, x_aald, x_iast, x_cast, x_last, x_aast, x_copy, x_obj, x_call, x_callL, x_iret, x_zret, x_cret, x_bret, x_lret, x_ret, ldI_i, ldA_a, ldL_l, nth_0, nth_s, sto_n0, sto_ns, sto_0, sto_i, sto_a, sto_l0, sto_ls, psh_t, psh_f, spl, splL, sh4, rcv, swK, stoL, clr, reduceIte, Int.reduceEq, Int.reduceLT, Int.reduceLE, Int.reduceAdd, Int.reduceSub, Int.reduceNeg, or_true, true_or, or_false, false_or, false_and, and_false, not_false_eq_true, not_true_eq_false, ne_eq, Nat.reduceDiv, Nat.reduceMod, Nat.reduceAdd, Nat.reduceMul, Nat.reduceBEq, Int.reduceToNat, Int.toNat_natCast, Nat.reduceEqDiff, Nat.reduceLT, Nat.reduceLeDiff, beq_self_eq_true, beq_iff_eq, true_and, and_true, Bool.false_eq_true, ite_self, Int.reduceTMod, Int.reduceTDiv, List.tail_cons, List.cons_append, List.nil_append, Nat.zero_add, g_164_0, g_164_65, g_164_71, cb, f1']
        exact nxt u' hu' j1
    · have j1 := (g_k2' hw1).2 (fun q => c5 q.1)
      simp -implicitDefEqProofs only [lay_n, lay_i, lay_a, lay_l, x_nil, x_iconst, x_lconst, x_ldc, x_iload, x_aload, x_lload, x_istore, x_astore, x_lstore, x_iinc, x_iadd, x_isub, x_imul, x_idiv, x_irem, x_ineg, x_iand, x_ior, x_ixor, x_ishl, x_ishr, x_iushr, x_i2b, x_i2c, x_i2l, x_l2i, x_ladd, x_lsub, x_lmul, x_land, x_lor, x_lxor, x_ldiv, x_lrem, x_lneg, x_lshl, x_lushr, x_lcmp, x_max, x_min, x_abs, x_labs, x_lmax, x_dupI, x_dupA, x_dup2, x_popI, x_popA, x_goto, x_eq, x_ne, x_lt, x_ge, x_gt, x_le, x_ceq, x_cne, x_clt, x_cge, x_cgt, x_cle, x_sw, x_getI, x_getR, x_putI, x_putZ, x_putR, x_new, x_newI, x_newC, x_newL, x_anew, x_multi, x_alen, x_iald, x_cald, x_bald, x_lald, x_aald, x_iast, x_cast, x_last, x_aast, x_copy, x_obj, x_call, x_callL, x_iret, x_zret, x_cret, x_bret, x_lret, x_ret, ldI_i, ldA_a, ldL_l, nth_0, nth_s, sto_n0, sto_ns, sto_0, sto_i, sto_a, sto_l0, sto_ls, psh_t, psh_f, spl, splL, sh4, rcv, swK, stoL, clr, reduceIte, Int.reduceEq, Int.reduceLT, Int.reduceLE, Int.reduceAdd, Int.reduceSub, Int.reduceNeg, or_true, true_or, or_false, false_or, false_and, and_false, not_false_eq_true, not_true_eq_false, ne_eq, Nat.reduceDiv, Nat.reduceMod, Nat.reduceAdd, Nat.reduceMul, Nat.reduceBEq, Int.reduceToNat, Int.toNat_natCast, Nat.reduceEqDiff, Nat.reduceLT, Nat.reduceLeDiff, beq_self_eq_true, beq_iff_eq, true_and, and_true, Bool.false_eq_true, ite_self, Int.reduceTMod, Int.reduceTDiv, List.tail_cons, List.cons_append, List.nil_append, Nat.zero_add, g_164_0, g_164_65, g_164_71, f2', e_bitC hw1, show ¬ (gPc w : Int) = 5 by clear b1 b2 b3 f1'; omega, f1']
      exact nxt u hf j1
theorem e_noN {x : Int} : ∀ (f r n : Nat), r < 10 ^ (f + 1) → r ≤ 2147483647 → n + gdN f r ≤ 5 → ∃ r', xGo (EvM TB d) (TB 165) Q 4 [.inl x, .inl n, .inl r] [] z v = xGo (EvM TB d) (TB 165) Q 26 [.inl x, .inl ((n + gdN f r : Nat) : Int), .inl r'] [] z v := by
  intro f
  induction f with
  | zero =>
    intro r n h1 h2 h3
    refine ⟨r, ?_⟩
    rw [l_165_4]
    simp -implicitDefEqProofs only [lay_n, lay_i, lay_a, lay_l, x_nil, x_iconst, x_lconst, x_ldc, x_iload, x_aload, x_lload, x_istore, x_astore, x_lstore, x_iinc, x_iadd, x_isub, x_imul, x_idiv, x_irem, x_ineg, x_iand, x_ior, x_ixor, x_ishl, x_ishr, x_iushr, x_i2b, x_i2c, x_i2l, x_l2i, x_ladd, x_lsub, x_lmul, x_land, x_lor, x_lxor, x_ldiv, x_lrem, x_lneg, x_lshl, x_lushr, x_lcmp, x_max, x_min, x_abs, x_labs, x_lmax, x_dupI, x_dupA, x_dup2, x_popI, x_popA, x_goto, x_eq, x_ne, x_lt, x_ge, x_gt, x_le, x_ceq, x_cne, x_clt, x_cge, x_cgt, x_cle, x_sw, x_getI, x_getR, x_putI, x_putZ, x_putR, x_new, x_newI, x_newC, x_newL, x_anew, x_multi, x_alen, x_iald, x_cald, x_bald, x_lald, x_aald, x_iast, x_cast, x_last, x_aast, x_copy, x_obj, x_call, x_callL, x_iret, x_zret, x_cret, x_bret, x_lret, x_ret, ldI_i, ldA_a, ldL_l, nth_0, nth_s, sto_n0, sto_ns, sto_0, sto_i, sto_a, sto_l0, sto_ls, psh_t, psh_f, spl, splL, sh4, rcv, swK, stoL, clr, reduceIte, Int.reduceEq, Int.reduceLT, Int.reduceLE, Int.reduceAdd, Int.reduceSub, Int.reduceNeg, or_true, true_or, or_false, false_or, false_and, and_false, not_false_eq_true, not_true_eq_false, ne_eq, Nat.reduceDiv, Nat.reduceMod, Nat.reduceAdd, Nat.reduceMul, Nat.reduceBEq, Int.reduceToNat, Int.toNat_natCast, Nat.reduceEqDiff, Nat.reduceLT, Nat.reduceLeDiff, beq_self_eq_true, beq_iff_eq, true_and, and_true, Bool.false_eq_true, ite_self, Int.reduceTMod, Int.reduceTDiv, List.tail_cons, List.cons_append, List.nil_append, Nat.zero_add, show ¬ (9 : Int) < (r : Int) by rw [Nat.zero_add, Nat.pow_one] at h1; omega, gdN]
    rfl
  | succ f ih =>
    intro r n h1 h2 h3
    by_cases c : r ≤ 9
    · refine ⟨r, ?_⟩
      rw [l_165_4, gdN, bif_le, if_pos c]
      simp -implicitDefEqProofs only [lay_n, lay_i, lay_a, lay_l, x_nil, x_iconst, x_lconst, x_ldc, x_iload, x_aload, x_lload, x_istore, x_astore, x_lstore, x_iinc, x_iadd, x_isub, x_imul, x_idiv, x_irem, x_ineg, x_iand, x_ior, x_ixor, x_ishl, x_ishr, x_iushr, x_i2b, x_i2c, x_i2l, x_l2i, x_ladd, x_lsub, x_lmul, x_land, x_lor, x_lxor, x_ldiv, x_lrem, x_lneg, x_lshl, x_lushr, x_lcmp, x_max, x_min, x_abs, x_labs, x_lmax, x_dupI, x_dupA, x_dup2, x_popI, x_popA, x_goto, x_eq, x_ne, x_lt, x_ge, x_gt, x_le, x_ceq, x_cne, x_clt, x_cge, x_cgt, x_cle, x_sw, x_getI, x_getR, x_putI, x_putZ, x_putR, x_new, x_newI, x_newC, x_newL, x_anew, x_multi, x_alen, x_iald, x_cald, x_bald, x_lald, x_aald, x_iast, x_cast, x_last, x_aast, x_copy, x_obj, x_call, x_callL, x_iret, x_zret, x_cret, x_bret, x_lret, x_ret, ldI_i, ldA_a, ldL_l, nth_0, nth_s, sto_n0, sto_ns, sto_0, sto_i, sto_a, sto_l0, sto_ls, psh_t, psh_f, spl, splL, sh4, rcv, swK, stoL, clr, reduceIte, Int.reduceEq, Int.reduceLT, Int.reduceLE, Int.reduceAdd, Int.reduceSub, Int.reduceNeg, or_true, true_or, or_false, false_or, false_and, and_false, not_false_eq_true, not_true_eq_false, ne_eq, Nat.reduceDiv, Nat.reduceMod, Nat.reduceAdd, Nat.reduceMul, Nat.reduceBEq, Int.reduceToNat, Int.toNat_natCast, Nat.reduceEqDiff, Nat.reduceLT, Nat.reduceLeDiff, beq_self_eq_true, beq_iff_eq, true_and, and_true, Bool.false_eq_true, ite_self, Int.reduceTMod, Int.reduceTDiv, List.tail_cons, List.cons_append, List.nil_append, Nat.zero_add, show ¬ (9 : Int) < (r : Int) by omega]
      rfl
    · have e1 : wr ((r : Int).tdiv 10) = ((r / 10 : Nat) : Int) := by
        rw [show (r : Int).tdiv 10 = ((r / 10 : Nat) : Int) from rfl]
        exact wr_id (by omega) (by omega)
      have hd : r / 10 < 10 ^ (f + 1) := by rw [Nat.pow_succ] at h1; clear e1; omega
      rw [gdN, bif_le, if_neg c] at h3
      obtain ⟨r', hr'⟩ := ih (r / 10) (n + 1) hd (by clear e1; omega) (by clear e1; omega)
      refine ⟨r', ?_⟩
      rw [l_165_4, gdN, bif_le, if_neg c]
      simp -implicitDefEqProofs only [lay_n, lay_i, lay_a, lay_l, x_nil, x_iconst, x_lconst, x_ldc, x_iload, x_aload, x_lload, x_istore, x_astore, x_lstore, x_iinc, x_iadd, x_isub, x_imul, x_idiv, x_irem, x_ineg, x_iand, x_ior, x_ixor, x_ishl, x_ishr, x_iushr, x_i2b, x_i2c, x_i2l, x_l2i, x_ladd, x_lsub, x_lmul, x_land, x_lor, x_lxor, x_ldiv, x_lrem, x_lneg, x_lshl, x_lushr, x_lcmp, x_max, x_min, x_abs, x_labs, x_lmax, x_dupI, x_dupA, x_dup2, x_popI, x_popA, x_goto, x_eq, x_ne, x_lt, x_ge, x_gt, x_le, x_ceq, x_cne, x_clt, x_cge, x_cgt, x_cle, x_sw, x_getI, x_getR, x_putI, x_putZ, x_putR, x_new, x_newI, x_newC, x_newL, x_anew, x_multi, x_alen, x_iald, x_cald, x_bald, x_lald, x_aald, x_iast, x_cast, x_last, x_aast, x_copy, x_obj, x_call, x_callL, x_iret, x_zret, x_cret, x_bret, x_lret, x_ret, ldI_i, ldA_a, ldL_l, nth_0, nth_s, sto_n0, sto_ns, sto_0, sto_i, sto_a, sto_l0, sto_ls, psh_t, psh_f, spl, splL, sh4, rcv, swK, stoL, clr, reduceIte, Int.reduceEq, Int.reduceLT, Int.reduceLE, Int.reduceAdd, Int.reduceSub, Int.reduceNeg, or_true, true_or, or_false, false_or, false_and, and_false, not_false_eq_true, not_true_eq_false, ne_eq, Nat.reduceDiv, Nat.reduceMod, Nat.reduceAdd, Nat.reduceMul, Nat.reduceBEq, Int.reduceToNat, Int.toNat_natCast, Nat.reduceEqDiff, Nat.reduceLT, Nat.reduceLeDiff, beq_self_eq_true, beq_iff_eq, true_and, and_true, Bool.false_eq_true, ite_self, Int.reduceTMod, Int.reduceTDiv, List.tail_cons, List.cons_append, List.nil_append, Nat.zero_add, show (9 : Int) < (r : Int) by clear e1; omega, show (n : Int) < 5 by clear e1; omega, wr_s (show n < 1000000 by clear e1; omega), e1]
      rw [hr']
      rw [show n + 1 + gdN f (r / 10) = n + (gdN f (r / 10) + 1) by clear e1; omega]
theorem e_noW {x n : Int} : ∀ (m r w qq c b : Nat), m ≤ 5 → r ≤ 200000 → w < 1024 → (gmP m r qq c b).1 = true →
    xGo (EvM TB d) (TB 165) Q 38 [.inl x, .inl n, .inl w, .inl r, .inl ((m : Int) - 1)] [] z v = Q z v (.inl (gnW m w r : Int)) := by
  intro m
  induction m with
  | zero =>
    intro r w qq c b hm hr hw hok
    rw [l_165_38]
    simp -implicitDefEqProofs only [lay_n, lay_i, lay_a, lay_l, x_nil, x_iconst, x_lconst, x_ldc, x_iload, x_aload, x_lload, x_istore, x_astore, x_lstore, x_iinc, x_iadd, x_isub, x_imul, x_idiv, x_irem, x_ineg, x_iand, x_ior, x_ixor, x_ishl, x_ishr, x_iushr, x_i2b, x_i2c, x_i2l, x_l2i, x_ladd, x_lsub, x_lmul, x_land, x_lor, x_lxor, x_ldiv, x_lrem, x_lneg, x_lshl, x_lushr, x_lcmp, x_max, x_min, x_abs, x_labs, x_lmax, x_dupI, x_dupA, x_dup2, x_popI, x_popA, x_goto, x_eq, x_ne, x_lt, x_ge, x_gt, x_le, x_ceq, x_cne, x_clt, x_cge, x_cgt, x_cle, x_sw, x_getI, x_getR, x_putI, x_putZ, x_putR, x_new, x_newI, x_newC, x_newL, x_anew, x_multi, x_alen, x_iald, x_cald, x_bald, x_lald, x_aald, x_iast, x_cast, x_last, x_aast, x_copy, x_obj, x_call, x_callL, x_iret, x_zret, x_cret, x_bret, x_lret, x_ret, ldI_i, ldA_a, ldL_l, nth_0, nth_s, sto_n0, sto_ns, sto_0, sto_i, sto_a, sto_l0, sto_ls, psh_t, psh_f, spl, splL, sh4, rcv, swK, stoL, clr, reduceIte, Int.reduceEq, Int.reduceLT, Int.reduceLE, Int.reduceAdd, Int.reduceSub, Int.reduceNeg, or_true, true_or, or_false, false_or, false_and, and_false, not_false_eq_true, not_true_eq_false, ne_eq, Nat.reduceDiv, Nat.reduceMod, Nat.reduceAdd, Nat.reduceMul, Nat.reduceBEq, Int.reduceToNat, Int.toNat_natCast, Nat.reduceEqDiff, Nat.reduceLT, Nat.reduceLeDiff, beq_self_eq_true, beq_iff_eq, true_and, and_true, Bool.false_eq_true, ite_self, Int.reduceTMod, Int.reduceTDiv, List.tail_cons, List.cons_append, List.nil_append, Nat.zero_add, g_165_0, g_165_26, g_165_70, show ((0 : Nat) : Int) - 1 < 0 by decide, gnW]
  | succ m ih =>
    intro r w qq c b hm hr hw hok
    rw [gmP] at hok
    cases hx : (Nat.ble 6 (r % 10) || Nat.ble (r % 10 + 1) qq) with
    | true => rw [hx] at hok; cases hok
    | false =>
      rw [hx, cond_false] at hok
      simp -implicitDefEqProofs only [Bool.or_eq_false_iff] at hx
      have h3 : ¬ 6 ≤ r % 10 := fun q => by rw [Nat.ble_eq_true_of_le q] at hx; cases hx.1
      obtain ⟨b1, b2⟩ := bS_eq (w := w) (b := r % 10 + 4 - m) hw (by omega)
      rw [l_165_38, show ((m + 1 : Nat) : Int) - 1 = (m : Int) by omega]
      have e1 : wr (wr (wr (((r % 10 : Nat) : Int) + 5) - 1) - (m : Int)) = ((r % 10 + 4 - m : Nat) : Int) := by
        clear b1
        rw [wr_p (k := ((r % 10 : Nat) : Int) + 5) (by omega) (by omega), wr_p (k := ((r % 10 : Nat) : Int) + 5 - 1) (by omega) (by omega), wr_p (by omega) (by omega)]
        omega
      have e3 : wr ((m : Int) + -1) = (m : Int) - 1 := by clear e1 b1; rw [wr_p (by omega) (by omega)]; omega
      have e4 : wr ((r : Int).tdiv 10) = ((r / 10 : Nat) : Int) := by
        clear e1 e3 b1
        rw [show (r : Int).tdiv 10 = ((r / 10 : Nat) : Int) from rfl]
        exact wr_id (by omega) (by omega)
      simp -implicitDefEqProofs only [lay_n, lay_i, lay_a, lay_l, x_nil, x_iconst, x_lconst, x_ldc, x_iload, x_aload, x_lload, x_istore, x_astore, x_lstore, x_iinc, x_iadd, x_isub, x_imul, x_idiv, x_irem, x_ineg, x_iand, x_ior, x_ixor, x_ishl, x_ishr, x_iushr, x_i2b, x_i2c, x_i2l, x_l2i, x_ladd, x_lsub, x_lmul, x_land, x_lor, x_lxor, x_ldiv, x_lrem, x_lneg, x_lshl, x_lushr, x_lcmp, x_max, x_min, x_abs, x_labs, x_lmax, x_dupI, x_dupA, x_dup2, x_popI, x_popA, x_goto, x_eq, x_ne, x_lt, x_ge, x_gt, x_le, x_ceq, x_cne, x_clt, x_cge, x_cgt, x_cle, x_sw, x_getI, x_getR, x_putI, x_putZ, x_putR, x_new, x_newI, x_newC, x_newL, x_anew, x_multi, x_alen, x_iald, x_cald, x_bald, x_lald, x_aald, x_iast, x_cast, x_last, x_aast, x_copy, x_obj, x_call, x_callL, x_iret, x_zret, x_cret, x_bret, x_lret, x_ret, ldI_i, ldA_a, ldL_l, nth_0, nth_s, sto_n0, sto_ns, sto_0, sto_i, sto_a, sto_l0, sto_ls, psh_t, psh_f, spl, splL, sh4, rcv, swK, stoL, clr, reduceIte, Int.reduceEq, Int.reduceLT, Int.reduceLE, Int.reduceAdd, Int.reduceSub, Int.reduceNeg, or_true, true_or, or_false, false_or, false_and, and_false, not_false_eq_true, not_true_eq_false, ne_eq, Nat.reduceDiv, Nat.reduceMod, Nat.reduceAdd, Nat.reduceMul, Nat.reduceBEq, Int.reduceToNat, Int.toNat_natCast, Nat.reduceEqDiff, Nat.reduceLT, Nat.reduceLeDiff, beq_self_eq_true, beq_iff_eq, true_and, and_true, Bool.false_eq_true, ite_self, Int.reduceTMod, Int.reduceTDiv, List.tail_cons, List.cons_append, List.nil_append, Nat.zero_add, show ¬ (m : Int) < 0 by clear e1 e3 e4 b1; omega, tm10, e1, b1, e3, e4]
      rw [gnW]
      exact ih (r / 10) _ _ _ _ (by clear e1 e3 e4 b1; omega) (by clear e1 e3 e4 b1; omega) b2 hok
theorem sh31 : (allB 6 fun n => decide (b32 (fun x y => x >>> (y &&& 31)) 31 (n : Int) = ((31 / 2 ^ n : Nat) : Int)) && Nat.ble (31 / 2 ^ n) 1023) = true := by decide +kernel
theorem e_numOf {x : Nat} (h1 : 10 ≤ x) (h2 : x ≤ 155555) (hc : gcP 6 x 0 0 = true) : EvM TB (d + 1) 165 z v [.inl x] Q = Q z v (.inl (gWd (g6 (gmC x)) : Int)) := by
  obtain ⟨⟨k1, k2⟩, k3, k4⟩ := g_k3a h1 h2
  obtain ⟨k5, k6, k7⟩ := k4 hc
  rw [k3] at hc
  simp -implicitDefEqProofs only [Bool.and_eq_true] at hc
  obtain ⟨r', hr'⟩ := @e_noN d z v Q (x : Int) 9 x 0 (by rw [p10_10]; omega) (by omega) (by omega)
  rw [Nat.zero_add] at hr'
  rw [e_ev]
  simp -implicitDefEqProofs only [lay_n, lay_i, lay_a, lay_l, x_nil, x_iconst, x_lconst, x_ldc, x_iload, x_aload, x_lload, x_istore, x_astore, x_lstore, x_iinc, x_iadd, x_isub, x_imul, x_idiv, x_irem, x_ineg, x_iand, x_ior, x_ixor, x_ishl, x_ishr, x_iushr, x_i2b, x_i2c, x_i2l, x_l2i, x_ladd, x_lsub, x_lmul, x_land, x_lor, x_lxor, x_ldiv, x_lrem, x_lneg, x_lshl, x_lushr, x_lcmp, x_max, x_min, x_abs, x_labs, x_lmax, x_dupI, x_dupA, x_dup2, x_popI, x_popA, x_goto, x_eq, x_ne, x_lt, x_ge, x_gt, x_le, x_ceq, x_cne, x_clt, x_cge, x_cgt, x_cle, x_sw, x_getI, x_getR, x_putI, x_putZ, x_putR, x_new, x_newI, x_newC, x_newL, x_anew, x_multi, x_alen, x_iald, x_cald, x_bald, x_lald, x_aald, x_iast, x_cast, x_last, x_aast, x_copy, x_obj, x_call, x_callL, x_iret, x_zret, x_cret, x_bret, x_lret, x_ret, ldI_i, ldA_a, ldL_l, nth_0, nth_s, sto_n0, sto_ns, sto_0, sto_i, sto_a, sto_l0, sto_ls, psh_t, psh_f, spl, splL, sh4, rcv, swK, stoL, clr, reduceIte, Int.reduceEq, Int.reduceLT, Int.reduceLE, Int.reduceAdd, Int.reduceSub, Int.reduceNeg, or_true, true_or, or_false, false_or, false_and, and_false, not_false_eq_true, not_true_eq_false, ne_eq, Nat.reduceDiv, Nat.reduceMod, Nat.reduceAdd, Nat.reduceMul, Nat.reduceBEq, Int.reduceToNat, Int.toNat_natCast, Nat.reduceEqDiff, Nat.reduceLT, Nat.reduceLeDiff, beq_self_eq_true, beq_iff_eq, true_and, and_true, Bool.false_eq_true, ite_self, Int.reduceTMod, Int.reduceTDiv, List.tail_cons, List.cons_append, List.nil_append, Nat.zero_add, g_165_0]
  refine hr'.trans ?_
  have hs := allB_spec sh31 (gdN 9 x) (by omega)
  simp -implicitDefEqProofs only [Bool.and_eq_true] at hs
  have hs1 := of_decide_eq_true hs.1
  have hs2 := Nat.le_of_ble_eq_true hs.2
  simp -implicitDefEqProofs only [lay_n, lay_i, lay_a, lay_l, x_nil, x_iconst, x_lconst, x_ldc, x_iload, x_aload, x_lload, x_istore, x_astore, x_lstore, x_iinc, x_iadd, x_isub, x_imul, x_idiv, x_irem, x_ineg, x_iand, x_ior, x_ixor, x_ishl, x_ishr, x_iushr, x_i2b, x_i2c, x_i2l, x_l2i, x_ladd, x_lsub, x_lmul, x_land, x_lor, x_lxor, x_ldiv, x_lrem, x_lneg, x_lshl, x_lushr, x_lcmp, x_max, x_min, x_abs, x_labs, x_lmax, x_dupI, x_dupA, x_dup2, x_popI, x_popA, x_goto, x_eq, x_ne, x_lt, x_ge, x_gt, x_le, x_ceq, x_cne, x_clt, x_cge, x_cgt, x_cle, x_sw, x_getI, x_getR, x_putI, x_putZ, x_putR, x_new, x_newI, x_newC, x_newL, x_anew, x_multi, x_alen, x_iald, x_cald, x_bald, x_lald, x_aald, x_iast, x_cast, x_last, x_aast, x_copy, x_obj, x_call, x_callL, x_iret, x_zret, x_cret, x_bret, x_lret, x_ret, ldI_i, ldA_a, ldL_l, nth_0, nth_s, sto_n0, sto_ns, sto_0, sto_i, sto_a, sto_l0, sto_ls, psh_t, psh_f, spl, splL, sh4, rcv, swK, stoL, clr, reduceIte, Int.reduceEq, Int.reduceLT, Int.reduceLE, Int.reduceAdd, Int.reduceSub, Int.reduceNeg, or_true, true_or, or_false, false_or, false_and, and_false, not_false_eq_true, not_true_eq_false, ne_eq, Nat.reduceDiv, Nat.reduceMod, Nat.reduceAdd, Nat.reduceMul, Nat.reduceBEq, Int.reduceToNat, Int.toNat_natCast, Nat.reduceEqDiff, Nat.reduceLT, Nat.reduceLeDiff, beq_self_eq_true, beq_iff_eq, true_and, and_true, Bool.false_eq_true, ite_self, Int.reduceTMod, Int.reduceTDiv, List.tail_cons, List.cons_append, List.nil_append, Nat.zero_add, g_165_26, hs1, wr_p (k := (gdN 9 x : Int) - 1) (by clear hs1; omega) (by clear hs1; omega)]
  rw [e_noW (gdN 9 x) x _ _ _ _ k2 (by clear hs1; omega) (by clear hs1; omega) hc.1, k7]
  rfl
theorem e_igL {x : Int} : ∀ (f r b n : Nat) (t : List xv), n + f = 6 → r ≤ 2147483647 → b ≤ 9 →
    xGo (EvM TB d) (TB 163) Q 6 (.inl x :: .inl r :: .inl b :: .inl n :: t) [] z v = Q z v (.inl (if gcP f r b n = true then 1 else 0)) := by
  intro f
  induction f with
  | zero =>
    intro r b n t hn hr hb
    rw [l_163_6]
    simp -implicitDefEqProofs only [lay_n, lay_i, lay_a, lay_l, x_nil, x_iconst, x_lconst, x_ldc, x_iload, x_aload, x_lload, x_istore, x_astore, x_lstore, x_iinc, x_iadd, x_isub, x_imul, x_idiv, x_irem, x_ineg, x_iand, x_ior, x_ixor, x_ishl, x_ishr, x_iushr, x_i2b, x_i2c, x_i2l, x_l2i, x_ladd, x_lsub, x_lmul, x_land, x_lor, x_lxor, x_ldiv, x_lrem, x_lneg, x_lshl, x_lushr, x_lcmp, x_max, x_min, x_abs, x_labs, x_lmax, x_dupI, x_dupA, x_dup2, x_popI, x_popA, x_goto, x_eq, x_ne, x_lt, x_ge, x_gt, x_le, x_ceq, x_cne, x_clt, x_cge, x_cgt, x_cle, x_sw, x_getI, x_getR, x_putI, x_putZ, x_putR, x_new, x_newI, x_newC, x_newL, x_anew, x_multi, x_alen, x_iald, x_cald, x_bald, x_lald, x_aald, x_iast, x_cast, x_last, x_aast, x_copy, x_obj, x_call, x_callL, x_iret, x_zret, x_cret, x_bret, x_lret, x_ret, ldI_i, ldA_a, ldL_l, nth_0, nth_s, sto_n0, sto_ns, sto_0, sto_i, sto_a, sto_l0, sto_ls, psh_t, psh_f, spl, splL, sh4, rcv, swK, stoL, clr, reduceIte, Int.reduceEq, Int.reduceLT, Int.reduceLE, Int.reduceAdd, Int.reduceSub, Int.reduceNeg, or_true, true_or, or_false, false_or, false_and, and_false, not_false_eq_true, not_true_eq_false, ne_eq, Nat.reduceDiv, Nat.reduceMod, Nat.reduceAdd, Nat.reduceMul, Nat.reduceBEq, Int.reduceToNat, Int.toNat_natCast, Nat.reduceEqDiff, Nat.reduceLT, Nat.reduceLeDiff, beq_self_eq_true, beq_iff_eq, true_and, and_true, Bool.false_eq_true, ite_self, Int.reduceTMod, Int.reduceTDiv, List.tail_cons, List.cons_append, List.nil_append, Nat.zero_add, g_163_0, g_163_24, g_163_25, g_163_26, g_163_48, g_163_50, g_163_64, show (5 : Int) < (n : Int) by omega, gcP, Bool.false_eq_true]
  | succ f ih =>
    intro r b n t hn hr hb
    rw [l_163_6, gcP, bif_eq]
    by_cases e : r = 1
    · rw [if_pos e]
      by_cases c : 1 ≤ n
      · rw [Nat.ble_eq_true_of_le c]
        simp -implicitDefEqProofs only [lay_n, lay_i, lay_a, lay_l, x_nil, x_iconst, x_lconst, x_ldc, x_iload, x_aload, x_lload, x_istore, x_astore, x_lstore, x_iinc, x_iadd, x_isub, x_imul, x_idiv, x_irem, x_ineg, x_iand, x_ior, x_ixor, x_ishl, x_ishr, x_iushr, x_i2b, x_i2c, x_i2l, x_l2i, x_ladd, x_lsub, x_lmul, x_land, x_lor, x_lxor, x_ldiv, x_lrem, x_lneg, x_lshl, x_lushr, x_lcmp, x_max, x_min, x_abs, x_labs, x_lmax, x_dupI, x_dupA, x_dup2, x_popI, x_popA, x_goto, x_eq, x_ne, x_lt, x_ge, x_gt, x_le, x_ceq, x_cne, x_clt, x_cge, x_cgt, x_cle, x_sw, x_getI, x_getR, x_putI, x_putZ, x_putR, x_new, x_newI, x_newC, x_newL, x_anew, x_multi, x_alen, x_iald, x_cald, x_bald, x_lald, x_aald, x_iast, x_cast, x_last, x_aast, x_copy, x_obj, x_call, x_callL, x_iret, x_zret, x_cret, x_bret, x_lret, x_ret, ldI_i, ldA_a, ldL_l, nth_0, nth_s, sto_n0, sto_ns, sto_0, sto_i, sto_a, sto_l0, sto_ls, psh_t, psh_f, spl, splL, sh4, rcv, swK, stoL, clr, reduceIte, Int.reduceEq, Int.reduceLT, Int.reduceLE, Int.reduceAdd, Int.reduceSub, Int.reduceNeg, or_true, true_or, or_false, false_or, false_and, and_false, not_false_eq_true, not_true_eq_false, ne_eq, Nat.reduceDiv, Nat.reduceMod, Nat.reduceAdd, Nat.reduceMul, Nat.reduceBEq, Int.reduceToNat, Int.toNat_natCast, Nat.reduceEqDiff, Nat.reduceLT, Nat.reduceLeDiff, beq_self_eq_true, beq_iff_eq, true_and, and_true, Bool.false_eq_true, ite_self, Int.reduceTMod, Int.reduceTDiv, List.tail_cons, List.cons_append, List.nil_append, Nat.zero_add, g_163_0, g_163_24, g_163_25, g_163_26, g_163_48, g_163_50, g_163_64, show ¬ (5 : Int) < (n : Int) by omega, show ((r : Int) = 1) = True from eq_true (by omega), show (0 : Int) < (n : Int) by omega]
      · rw [show n = 0 by omega]
        simp -implicitDefEqProofs only [lay_n, lay_i, lay_a, lay_l, x_nil, x_iconst, x_lconst, x_ldc, x_iload, x_aload, x_lload, x_istore, x_astore, x_lstore, x_iinc, x_iadd, x_isub, x_imul, x_idiv, x_irem, x_ineg, x_iand, x_ior, x_ixor, x_ishl, x_ishr, x_iushr, x_i2b, x_i2c, x_i2l, x_l2i, x_ladd, x_lsub, x_lmul, x_land, x_lor, x_lxor, x_ldiv, x_lrem, x_lneg, x_lshl, x_lushr, x_lcmp, x_max, x_min, x_abs, x_labs, x_lmax, x_dupI, x_dupA, x_dup2, x_popI, x_popA, x_goto, x_eq, x_ne, x_lt, x_ge, x_gt, x_le, x_ceq, x_cne, x_clt, x_cge, x_cgt, x_cle, x_sw, x_getI, x_getR, x_putI, x_putZ, x_putR, x_new, x_newI, x_newC, x_newL, x_anew, x_multi, x_alen, x_iald, x_cald, x_bald, x_lald, x_aald, x_iast, x_cast, x_last, x_aast, x_copy, x_obj, x_call, x_callL, x_iret, x_zret, x_cret, x_bret, x_lret, x_ret, ldI_i, ldA_a, ldL_l, nth_0, nth_s, sto_n0, sto_ns, sto_0, sto_i, sto_a, sto_l0, sto_ls, psh_t, psh_f, spl, splL, sh4, rcv, swK, stoL, clr, reduceIte, Int.reduceEq, Int.reduceLT, Int.reduceLE, Int.reduceAdd, Int.reduceSub, Int.reduceNeg, or_true, true_or, or_false, false_or, false_and, and_false, not_false_eq_true, not_true_eq_false, ne_eq, Nat.reduceDiv, Nat.reduceMod, Nat.reduceAdd, Nat.reduceMul, Nat.reduceBEq, Int.reduceToNat, Int.toNat_natCast, Nat.reduceEqDiff, Nat.reduceLT, Nat.reduceLeDiff, beq_self_eq_true, beq_iff_eq, true_and, and_true, Bool.false_eq_true, ite_self, Int.reduceTMod, Int.reduceTDiv, List.tail_cons, List.cons_append, List.nil_append, Nat.zero_add, g_163_0, g_163_24, g_163_25, g_163_26, g_163_48, g_163_50, g_163_64, show ¬ (5 : Int) < ((0 : Nat) : Int) by decide, show ((r : Int) = 1) = True from eq_true (by omega), show ¬ (0 : Int) < ((0 : Nat) : Int) by decide]
        rfl
    · rw [if_neg e]
      have f1 : ¬ (5 : Int) < (n : Int) := by omega
      have f2 : ¬ (r : Int) = 1 := by omega
      by_cases c0 : r = 0
      · rw [c0]
        simp -implicitDefEqProofs only [lay_n, lay_i, lay_a, lay_l, x_nil, x_iconst, x_lconst, x_ldc, x_iload, x_aload, x_lload, x_istore, x_astore, x_lstore, x_iinc, x_iadd, x_isub, x_imul, x_idiv, x_irem, x_ineg, x_iand, x_ior, x_ixor, x_ishl, x_ishr, x_iushr, x_i2b, x_i2c, x_i2l, x_l2i, x_ladd, x_lsub, x_lmul, x_land, x_lor, x_lxor, x_ldiv, x_lrem, x_lneg, x_lshl, x_lushr, x_lcmp, x_max, x_min, x_abs, x_labs, x_lmax, x_dupI, x_dupA, x_dup2, x_popI, x_popA, x_goto, x_eq, x_ne, x_lt, x_ge, x_gt, x_le, x_ceq, x_cne, x_clt, x_cge, x_cgt, x_cle, x_sw, x_getI, x_getR, x_putI, x_putZ, x_putR, x_new, x_newI, x_newC, x_newL, x_anew, x_multi, x_alen, x_iald, x_cald, x_bald, x_lald, x_aald, x_iast, x_cast, x_last, x_aast, x_copy, x_obj, x_call, x_callL, x_iret, x_zret, x_cret, x_bret, x_lret, x_ret, ldI_i, ldA_a, ldL_l, nth_0, nth_s, sto_n0, sto_ns, sto_0, sto_i, sto_a, sto_l0, sto_ls, psh_t, psh_f, spl, splL, sh4, rcv, swK, stoL, clr, reduceIte, Int.reduceEq, Int.reduceLT, Int.reduceLE, Int.reduceAdd, Int.reduceSub, Int.reduceNeg, or_true, true_or, or_false, false_or, false_and, and_false, not_false_eq_true, not_true_eq_false, ne_eq, Nat.reduceDiv, Nat.reduceMod, Nat.reduceAdd, Nat.reduceMul, Nat.reduceBEq, Int.reduceToNat, Int.toNat_natCast, Nat.reduceEqDiff, Nat.reduceLT, Nat.reduceLeDiff, beq_self_eq_true, beq_iff_eq, true_and, and_true, Bool.false_eq_true, ite_self, Int.reduceTMod, Int.reduceTDiv, List.tail_cons, List.cons_append, List.nil_append, Nat.zero_add, g_163_0, g_163_24, g_163_25, g_163_26, g_163_48, g_163_50, g_163_64, f1, show ¬ (((0 : Nat) : Int)) = 1 by decide, tm10, sto_t, show ¬ (0 : Int) < ((0 : Nat) : Int) by decide]
        rfl
      · have x0 : Nat.beq r 0 = false := by
          cases hh : Nat.beq r 0 with
          | true => exact absurd (Nat.eq_of_beq_eq_true hh) c0
          | false => rfl
        rw [x0, Bool.false_or]
        by_cases c1 : 6 ≤ r % 10
        · rw [Nat.ble_eq_true_of_le c1]
          simp -implicitDefEqProofs only [lay_n, lay_i, lay_a, lay_l, x_nil, x_iconst, x_lconst, x_ldc, x_iload, x_aload, x_lload, x_istore, x_astore, x_lstore, x_iinc, x_iadd, x_isub, x_imul, x_idiv, x_irem, x_ineg, x_iand, x_ior, x_ixor, x_ishl, x_ishr, x_iushr, x_i2b, x_i2c, x_i2l, x_l2i, x_ladd, x_lsub, x_lmul, x_land, x_lor, x_lxor, x_ldiv, x_lrem, x_lneg, x_lshl, x_lushr, x_lcmp, x_max, x_min, x_abs, x_labs, x_lmax, x_dupI, x_dupA, x_dup2, x_popI, x_popA, x_goto, x_eq, x_ne, x_lt, x_ge, x_gt, x_le, x_ceq, x_cne, x_clt, x_cge, x_cgt, x_cle, x_sw, x_getI, x_getR, x_putI, x_putZ, x_putR, x_new, x_newI, x_newC, x_newL, x_anew, x_multi, x_alen, x_iald, x_cald, x_bald, x_lald, x_aald, x_iast, x_cast, x_last, x_aast, x_copy, x_obj, x_call, x_callL, x_iret, x_zret, x_cret, x_bret, x_lret, x_ret, ldI_i, ldA_a, ldL_l, nth_0, nth_s, sto_n0, sto_ns, sto_0, sto_i, sto_a, sto_l0, sto_ls, psh_t, psh_f, spl, splL, sh4, rcv, swK, stoL, clr, reduceIte, Int.reduceEq, Int.reduceLT, Int.reduceLE, Int.reduceAdd, Int.reduceSub, Int.reduceNeg, or_true, true_or, or_false, false_or, false_and, and_false, not_false_eq_true, not_true_eq_false, ne_eq, Nat.reduceDiv, Nat.reduceMod, Nat.reduceAdd, Nat.reduceMul, Nat.reduceBEq, Int.reduceToNat, Int.toNat_natCast, Nat.reduceEqDiff, Nat.reduceLT, Nat.reduceLeDiff, beq_self_eq_true, beq_iff_eq, true_and, and_true, Bool.false_eq_true, ite_self, Int.reduceTMod, Int.reduceTDiv, List.tail_cons, List.cons_append, List.nil_append, Nat.zero_add, g_163_0, g_163_24, g_163_25, g_163_26, g_163_48, g_163_50, g_163_64, f1, f2, tm10, sto_t, show (0 : Int) < (r : Int) by omega, show (5 : Int) < ((r % 10 : Nat) : Int) by omega]
          rfl
        · have x1 : Nat.ble 6 (r % 10) = false := by
            cases hh : Nat.ble 6 (r % 10) with
            | true => exact absurd (Nat.le_of_ble_eq_true hh) c1
            | false => rfl
          rw [x1, Bool.false_or]
          by_cases c2 : r % 10 < b
          · rw [Nat.ble_eq_true_of_le (show r % 10 + 1 ≤ b from c2)]
            simp -implicitDefEqProofs only [lay_n, lay_i, lay_a, lay_l, x_nil, x_iconst, x_lconst, x_ldc, x_iload, x_aload, x_lload, x_istore, x_astore, x_lstore, x_iinc, x_iadd, x_isub, x_imul, x_idiv, x_irem, x_ineg, x_iand, x_ior, x_ixor, x_ishl, x_ishr, x_iushr, x_i2b, x_i2c, x_i2l, x_l2i, x_ladd, x_lsub, x_lmul, x_land, x_lor, x_lxor, x_ldiv, x_lrem, x_lneg, x_lshl, x_lushr, x_lcmp, x_max, x_min, x_abs, x_labs, x_lmax, x_dupI, x_dupA, x_dup2, x_popI, x_popA, x_goto, x_eq, x_ne, x_lt, x_ge, x_gt, x_le, x_ceq, x_cne, x_clt, x_cge, x_cgt, x_cle, x_sw, x_getI, x_getR, x_putI, x_putZ, x_putR, x_new, x_newI, x_newC, x_newL, x_anew, x_multi, x_alen, x_iald, x_cald, x_bald, x_lald, x_aald, x_iast, x_cast, x_last, x_aast, x_copy, x_obj, x_call, x_callL, x_iret, x_zret, x_cret, x_bret, x_lret, x_ret, ldI_i, ldA_a, ldL_l, nth_0, nth_s, sto_n0, sto_ns, sto_0, sto_i, sto_a, sto_l0, sto_ls, psh_t, psh_f, spl, splL, sh4, rcv, swK, stoL, clr, reduceIte, Int.reduceEq, Int.reduceLT, Int.reduceLE, Int.reduceAdd, Int.reduceSub, Int.reduceNeg, or_true, true_or, or_false, false_or, false_and, and_false, not_false_eq_true, not_true_eq_false, ne_eq, Nat.reduceDiv, Nat.reduceMod, Nat.reduceAdd, Nat.reduceMul, Nat.reduceBEq, Int.reduceToNat, Int.toNat_natCast, Nat.reduceEqDiff, Nat.reduceLT, Nat.reduceLeDiff, beq_self_eq_true, beq_iff_eq, true_and, and_true, Bool.false_eq_true, ite_self, Int.reduceTMod, Int.reduceTDiv, List.tail_cons, List.cons_append, List.nil_append, Nat.zero_add, g_163_0, g_163_24, g_163_25, g_163_26, g_163_48, g_163_50, g_163_64, f1, f2, tm10, sto_t, show (0 : Int) < (r : Int) by omega, show ¬ (5 : Int) < ((r % 10 : Nat) : Int) by omega, show ((r % 10 : Nat) : Int) < (b : Int) by omega]
            rfl
          · have x2 : Nat.ble (r % 10 + 1) b = false := by
              cases hh : Nat.ble (r % 10 + 1) b with
              | true => exact absurd (Nat.le_of_ble_eq_true hh) (by omega)
              | false => rfl
            have e4 : wr ((r : Int).tdiv 10) = ((r / 10 : Nat) : Int) := by
              rw [show (r : Int).tdiv 10 = ((r / 10 : Nat) : Int) from rfl]
              exact wr_id (by omega) (by omega)
            rw [x2, cond_false]
            simp -implicitDefEqProofs only [lay_n, lay_i, lay_a, lay_l, x_nil, x_iconst, x_lconst, x_ldc, x_iload, x_aload, x_lload, x_istore, x_astore, x_lstore, x_iinc, x_iadd, x_isub, x_imul, x_idiv, x_irem, x_ineg, x_iand, x_ior, x_ixor, x_ishl, x_ishr, x_iushr, x_i2b, x_i2c, x_i2l, x_l2i, x_ladd, x_lsub, x_lmul, x_land, x_lor, x_lxor, x_ldiv, x_lrem, x_lneg, x_lshl, x_lushr, x_lcmp, x_max, x_min, x_abs, x_labs, x_lmax, x_dupI, x_dupA, x_dup2, x_popI, x_popA, x_goto, x_eq, x_ne, x_lt, x_ge, x_gt, x_le, x_ceq, x_cne, x_clt, x_cge, x_cgt, x_cle, x_sw, x_getI, x_getR, x_putI, x_putZ, x_putR, x_new, x_newI, x_newC, x_newL, x_anew, x_multi, x_alen, x_iald, x_cald, x_bald, x_lald, x_aald, x_iast, x_cast, x_last, x_aast, x_copy, x_obj, x_call, x_callL, x_iret, x_zret, x_cret, x_bret, x_lret, x_ret, ldI_i, ldA_a, ldL_l, nth_0, nth_s, sto_n0, sto_ns, sto_0, sto_i, sto_a, sto_l0, sto_ls, psh_t, psh_f, spl, splL, sh4, rcv, swK, stoL, clr, reduceIte, Int.reduceEq, Int.reduceLT, Int.reduceLE, Int.reduceAdd, Int.reduceSub, Int.reduceNeg, or_true, true_or, or_false, false_or, false_and, and_false, not_false_eq_true, not_true_eq_false, ne_eq, Nat.reduceDiv, Nat.reduceMod, Nat.reduceAdd, Nat.reduceMul, Nat.reduceBEq, Int.reduceToNat, Int.toNat_natCast, Nat.reduceEqDiff, Nat.reduceLT, Nat.reduceLeDiff, beq_self_eq_true, beq_iff_eq, true_and, and_true, Bool.false_eq_true, ite_self, Int.reduceTMod, Int.reduceTDiv, List.tail_cons, List.cons_append, List.nil_append, Nat.zero_add, g_163_0, g_163_24, g_163_25, g_163_26, g_163_48, g_163_50, g_163_64, f1, f2, tm10, sto_t, show (0 : Int) < (r : Int) by clear e4; omega, show ¬ (5 : Int) < ((r % 10 : Nat) : Int) by clear e4; omega, show ¬ ((r % 10 : Nat) : Int) < (b : Int) by clear e4; omega, e4, wr_s (show n < 1000000 by clear e4; omega)]
            exact ih (r / 10) (r % 10) (n + 1) _ (by clear e4; omega) (by clear e4; omega) (by clear e4; omega)
theorem e_isGame {x : Int} (hx : rg x) : EvM TB (d + 1) 163 z v [.inl x] Q = Q z v (.inl (if 0 ≤ x ∧ gcP 6 x.toNat 0 0 = true then 1 else 0)) := by
  obtain ⟨hx1, hx2⟩ := hx
  rw [e_ev]
  simp -implicitDefEqProofs only [lay_n, lay_i, lay_a, lay_l, x_nil, x_iconst, x_lconst, x_ldc, x_iload, x_aload, x_lload, x_istore, x_astore, x_lstore, x_iinc, x_iadd, x_isub, x_imul, x_idiv, x_irem, x_ineg, x_iand, x_ior, x_ixor, x_ishl, x_ishr, x_iushr, x_i2b, x_i2c, x_i2l, x_l2i, x_ladd, x_lsub, x_lmul, x_land, x_lor, x_lxor, x_ldiv, x_lrem, x_lneg, x_lshl, x_lushr, x_lcmp, x_max, x_min, x_abs, x_labs, x_lmax, x_dupI, x_dupA, x_dup2, x_popI, x_popA, x_goto, x_eq, x_ne, x_lt, x_ge, x_gt, x_le, x_ceq, x_cne, x_clt, x_cge, x_cgt, x_cle, x_sw, x_getI, x_getR, x_putI, x_putZ, x_putR, x_new, x_newI, x_newC, x_newL, x_anew, x_multi, x_alen, x_iald, x_cald, x_bald, x_lald, x_aald, x_iast, x_cast, x_last, x_aast, x_copy, x_obj, x_call, x_callL, x_iret, x_zret, x_cret, x_bret, x_lret, x_ret, ldI_i, ldA_a, ldL_l, nth_0, nth_s, sto_n0, sto_ns, sto_0, sto_i, sto_a, sto_l0, sto_ls, psh_t, psh_f, spl, splL, sh4, rcv, swK, stoL, clr, reduceIte, Int.reduceEq, Int.reduceLT, Int.reduceLE, Int.reduceAdd, Int.reduceSub, Int.reduceNeg, or_true, true_or, or_false, false_or, false_and, and_false, not_false_eq_true, not_true_eq_false, ne_eq, Nat.reduceDiv, Nat.reduceMod, Nat.reduceAdd, Nat.reduceMul, Nat.reduceBEq, Int.reduceToNat, Int.toNat_natCast, Nat.reduceEqDiff, Nat.reduceLT, Nat.reduceLeDiff, beq_self_eq_true, beq_iff_eq, true_and, and_true, Bool.false_eq_true, ite_self, Int.reduceTMod, Int.reduceTDiv, List.tail_cons, List.cons_append, List.nil_append, Nat.zero_add, g_163_0, g_163_24, g_163_25, g_163_26, g_163_48, g_163_50, g_163_64]
  by_cases h0 : x < 0
  · rw [l_163_6, if_neg (fun q => by omega)]
    simp -implicitDefEqProofs only [lay_n, lay_i, lay_a, lay_l, x_nil, x_iconst, x_lconst, x_ldc, x_iload, x_aload, x_lload, x_istore, x_astore, x_lstore, x_iinc, x_iadd, x_isub, x_imul, x_idiv, x_irem, x_ineg, x_iand, x_ior, x_ixor, x_ishl, x_ishr, x_iushr, x_i2b, x_i2c, x_i2l, x_l2i, x_ladd, x_lsub, x_lmul, x_land, x_lor, x_lxor, x_ldiv, x_lrem, x_lneg, x_lshl, x_lushr, x_lcmp, x_max, x_min, x_abs, x_labs, x_lmax, x_dupI, x_dupA, x_dup2, x_popI, x_popA, x_goto, x_eq, x_ne, x_lt, x_ge, x_gt, x_le, x_ceq, x_cne, x_clt, x_cge, x_cgt, x_cle, x_sw, x_getI, x_getR, x_putI, x_putZ, x_putR, x_new, x_newI, x_newC, x_newL, x_anew, x_multi, x_alen, x_iald, x_cald, x_bald, x_lald, x_aald, x_iast, x_cast, x_last, x_aast, x_copy, x_obj, x_call, x_callL, x_iret, x_zret, x_cret, x_bret, x_lret, x_ret, ldI_i, ldA_a, ldL_l, nth_0, nth_s, sto_n0, sto_ns, sto_0, sto_i, sto_a, sto_l0, sto_ls, psh_t, psh_f, spl, splL, sh4, rcv, swK, stoL, clr, reduceIte, Int.reduceEq, Int.reduceLT, Int.reduceLE, Int.reduceAdd, Int.reduceSub, Int.reduceNeg, or_true, true_or, or_false, false_or, false_and, and_false, not_false_eq_true, not_true_eq_false, ne_eq, Nat.reduceDiv, Nat.reduceMod, Nat.reduceAdd, Nat.reduceMul, Nat.reduceBEq, Int.reduceToNat, Int.toNat_natCast, Nat.reduceEqDiff, Nat.reduceLT, Nat.reduceLeDiff, beq_self_eq_true, beq_iff_eq, true_and, and_true, Bool.false_eq_true, ite_self, Int.reduceTMod, Int.reduceTDiv, List.tail_cons, List.cons_append, List.nil_append, Nat.zero_add, g_163_0, g_163_24, g_163_25, g_163_26, g_163_48, g_163_50, g_163_64, show ¬ x = 1 by omega, show ¬ 0 < x by omega]
  · obtain ⟨x, rfl⟩ := Int.eq_ofNat_of_zero_le (show 0 ≤ x by omega)
    refine (e_igL 6 x 0 0 [] (by omega) (by omega) (by omega)).trans ?_
    by_cases c : gcP 6 x 0 0 = true
    · rw [if_pos c, if_pos ⟨by omega, c⟩]
    · rw [if_neg c, if_neg (fun q => c q.2)]
theorem e_game (hz : Lay z) {x : Int} (hx : rg x) (hQ : ∀ z' v', rom z z' → cor v v' → Q z' v' (.inl (gameR x))) : EvM TB (d + 4) 162 z v [.inr (.inl 16), .inl x] Q := by
  rw [e_ev]
  simp -implicitDefEqProofs only [lay_n, lay_i, lay_a, lay_l, x_nil, x_iconst, x_lconst, x_ldc, x_iload, x_aload, x_lload, x_istore, x_astore, x_lstore, x_iinc, x_iadd, x_isub, x_imul, x_idiv, x_irem, x_ineg, x_iand, x_ior, x_ixor, x_ishl, x_ishr, x_iushr, x_i2b, x_i2c, x_i2l, x_l2i, x_ladd, x_lsub, x_lmul, x_land, x_lor, x_lxor, x_ldiv, x_lrem, x_lneg, x_lshl, x_lushr, x_lcmp, x_max, x_min, x_abs, x_labs, x_lmax, x_dupI, x_dupA, x_dup2, x_popI, x_popA, x_goto, x_eq, x_ne, x_lt, x_ge, x_gt, x_le, x_ceq, x_cne, x_clt, x_cge, x_cgt, x_cle, x_sw, x_getI, x_getR, x_putI, x_putZ, x_putR, x_new, x_newI, x_newC, x_newL, x_anew, x_multi, x_alen, x_iald, x_cald, x_bald, x_lald, x_aald, x_iast, x_cast, x_last, x_aast, x_copy, x_obj, x_call, x_callL, x_iret, x_zret, x_cret, x_bret, x_lret, x_ret, ldI_i, ldA_a, ldL_l, nth_0, nth_s, sto_n0, sto_ns, sto_0, sto_i, sto_a, sto_l0, sto_ls, psh_t, psh_f, spl, splL, sh4, rcv, swK, stoL, clr, reduceIte, Int.reduceEq, Int.reduceLT, Int.reduceLE, Int.reduceAdd, Int.reduceSub, Int.reduceNeg, or_true, true_or, or_false, false_or, false_and, and_false, not_false_eq_true, not_true_eq_false, ne_eq, Nat.reduceDiv, Nat.reduceMod, Nat.reduceAdd, Nat.reduceMul, Nat.reduceBEq, Int.reduceToNat, Int.toNat_natCast, Nat.reduceEqDiff, Nat.reduceLT, Nat.reduceLeDiff, beq_self_eq_true, beq_iff_eq, true_and, and_true, Bool.false_eq_true, ite_self, Int.reduceTMod, Int.reduceTDiv, List.tail_cons, List.cons_append, List.nil_append, Nat.zero_add, g_162_0, g_162_14, g_162_15, e_isGame hx, if_01]
  unfold gameR at hQ
  by_cases h : 0 ≤ x ∧ gcP 6 x.toNat 0 0 = true
  · rw [if_pos h]
    simp -implicitDefEqProofs only [if_pos h] at hQ
    obtain ⟨x, rfl⟩ := Int.eq_ofNat_of_zero_le h.1
    have hc : gcP 6 x 0 0 = true := h.2
    have h2 := gcP_le hc
    have h1 : 10 ≤ x := by
      by_cases c : 10 ≤ x
      · exact c
      · rw [g_k3b (by omega)] at hc; cases hc
    obtain ⟨k5, k6, k7⟩ := (g_k3a h1 h2).2.2 hc
    obtain ⟨-, -, -, -, -, k8, k9⟩ := (g_k1' k6).1 k5
    have hz0 := hz.1
    unfold zn at hz0
    have hz2 : Lay (nwZ (nwZ z 102 16 16) 100 5 5) := lay_nw (lay_nw hz _ _ _) _ _ _
    rw [e_ev]
    simp -implicitDefEqProofs only [lay_n, lay_i, lay_a, lay_l, x_nil, x_iconst, x_lconst, x_ldc, x_iload, x_aload, x_lload, x_istore, x_astore, x_lstore, x_iinc, x_iadd, x_isub, x_imul, x_idiv, x_irem, x_ineg, x_iand, x_ior, x_ixor, x_ishl, x_ishr, x_iushr, x_i2b, x_i2c, x_i2l, x_l2i, x_ladd, x_lsub, x_lmul, x_land, x_lor, x_lxor, x_ldiv, x_lrem, x_lneg, x_lshl, x_lushr, x_lcmp, x_max, x_min, x_abs, x_labs, x_lmax, x_dupI, x_dupA, x_dup2, x_popI, x_popA, x_goto, x_eq, x_ne, x_lt, x_ge, x_gt, x_le, x_ceq, x_cne, x_clt, x_cge, x_cgt, x_cle, x_sw, x_getI, x_getR, x_putI, x_putZ, x_putR, x_new, x_newI, x_newC, x_newL, x_anew, x_multi, x_alen, x_iald, x_cald, x_bald, x_lald, x_aald, x_iast, x_cast, x_last, x_aast, x_copy, x_obj, x_call, x_callL, x_iret, x_zret, x_cret, x_bret, x_lret, x_ret, ldI_i, ldA_a, ldL_l, nth_0, nth_s, sto_n0, sto_ns, sto_0, sto_i, sto_a, sto_l0, sto_ls, psh_t, psh_f, spl, splL, sh4, rcv, swK, stoL, clr, reduceIte, Int.reduceEq, Int.reduceLT, Int.reduceLE, Int.reduceAdd, Int.reduceSub, Int.reduceNeg, or_true, true_or, or_false, false_or, false_and, and_false, not_false_eq_true, not_true_eq_false, ne_eq, Nat.reduceDiv, Nat.reduceMod, Nat.reduceAdd, Nat.reduceMul, Nat.reduceBEq, Int.reduceToNat, Int.toNat_natCast, Nat.reduceEqDiff, Nat.reduceLT, Nat.reduceLeDiff, beq_self_eq_true, beq_iff_eq, true_and, and_true, Bool.false_eq_true, ite_self, Int.reduceTMod, Int.reduceTDiv, List.tail_cons, List.cons_append, List.nil_append, Nat.zero_add, g_164_0, e_numOf h1 h2 hc, zn_nw]
    have hqk : zh (nwZ (nwZ z 102 16 16) 100 5 5) (z.1 + 1) = 100 := zh_new (nwZ z 102 16 16) 100 5 5
    have hql : ((zl (nwZ (nwZ z 102 16 16) 100 5 5) (z.1 + 1) : Nat) : Int) = 5 := by
      rw [show zl (nwZ (nwZ z 102 16 16) 100 5 5) (z.1 + 1) = 5 from zl_new (nwZ z 102 16 16) 100 5 5]; rfl
    have hpk : zh (nwZ (nwZ z 102 16 16) 100 5 5) z.1 = 102 := by rw [zh_old (by rw [zn_nw]; omega), zh_new]
    have hpl : ((zl (nwZ (nwZ z 102 16 16) 100 5 5) z.1 : Nat) : Int) = 16 := by rw [zl_old (by rw [zn_nw]; omega), zl_new]; rfl
    have e : nwZ (nwZ z 102 16 16) 100 5 5 = zf (nwZ (nwZ z 102 16 16) 100 5 5) (nwZ (nwZ z 102 16 16) 100 5 5).2.2.2.2.2 := rfl
    rw [e]
    refine e_wsL (z := nwZ (nwZ z 102 16 16) 100 5 5) (v := nwV (nwV v z.1) (z.1 + 1)) (W := gWd (g6 (gmC x))) hqk hql hpk hpl k6 k5 rfl (fun u f hu => ?_) (max (gWd (g6 (gmC x))) 32 - 32) 32 _ _ (Nat.add_sub_cancel' (Nat.le_max_right _ _)) (Nat.le_refl _) (fun _ _ => rfl) (fun w' hw' => ?_)
    · simp -implicitDefEqProofs only [lay_n, lay_i, lay_a, lay_l, x_nil, x_iconst, x_lconst, x_ldc, x_iload, x_aload, x_lload, x_istore, x_astore, x_lstore, x_iinc, x_iadd, x_isub, x_imul, x_idiv, x_irem, x_ineg, x_iand, x_ior, x_ixor, x_ishl, x_ishr, x_iushr, x_i2b, x_i2c, x_i2l, x_l2i, x_ladd, x_lsub, x_lmul, x_land, x_lor, x_lxor, x_ldiv, x_lrem, x_lneg, x_lshl, x_lushr, x_lcmp, x_max, x_min, x_abs, x_labs, x_lmax, x_dupI, x_dupA, x_dup2, x_popI, x_popA, x_goto, x_eq, x_ne, x_lt, x_ge, x_gt, x_le, x_ceq, x_cne, x_clt, x_cge, x_cgt, x_cle, x_sw, x_getI, x_getR, x_putI, x_putZ, x_putR, x_new, x_newI, x_newC, x_newL, x_anew, x_multi, x_alen, x_iald, x_cald, x_bald, x_lald, x_aald, x_iast, x_cast, x_last, x_aast, x_copy, x_obj, x_call, x_callL, x_iret, x_zret, x_cret, x_bret, x_lret, x_ret, ldI_i, ldA_a, ldL_l, nth_0, nth_s, sto_n0, sto_ns, sto_0, sto_i, sto_a, sto_l0, sto_ls, psh_t, psh_f, spl, splL, sh4, rcv, swK, stoL, clr, reduceIte, Int.reduceEq, Int.reduceLT, Int.reduceLE, Int.reduceAdd, Int.reduceSub, Int.reduceNeg, or_true, true_or, or_false, false_or, false_and, and_false, not_false_eq_true, not_true_eq_false, ne_eq, Nat.reduceDiv, Nat.reduceMod, Nat.reduceAdd, Nat.reduceMul, Nat.reduceBEq, Int.reduceToNat, Int.toNat_natCast, Nat.reduceEqDiff, Nat.reduceLT, Nat.reduceLeDiff, beq_self_eq_true, beq_iff_eq, true_and, and_true, Bool.false_eq_true, ite_self, Int.reduceTMod, Int.reduceTDiv, List.tail_cons, List.cons_append, List.nil_append, Nat.zero_add, g_162_0, g_162_14, g_162_15]
      refine hQ _ _ ⟨hz2, ?_, ?_, ?_, ?_, ?_⟩ (cor_frame (Nat.le_refl _) (fun a y ha => ?_))
      · show zl (nwZ (nwZ z 102 16 16) 100 5 5) 10 = _
        rw [zl_old (by rw [zn_nw]; omega), zl_old (by omega)]
      · show z.1 ≤ z.1 + 1 + 1; omega
      · show z.1 + 1 + 1 ≤ z.1 + 20; omega
      · show z.2.1 ≤ z.2.1 + 16 + 5; omega
      · show z.2.1 + 16 + 5 ≤ z.2.1 + 100; omega
      · rw [hu a (by omega), nwV_ap, if_neg (by omega), nwV_ap, if_neg (by omega)]
    · have : (nwZ (nwZ z 102 16 16) 100 5 5).2.2.2.2.2 z.1 (w' / 64) = 0 := by
        show (if z.1 = z.1 + 1 then (0 : Int64) else if z.1 = z.1 then 0 else z.2.2.2.2.2 z.1 (w' / 64)) = 0
        rw [if_neg (by omega), if_pos rfl]
      rw [this]
      have e2 : lbt 0 (w' % 64) = false := by
        show (0#64).getLsbD (w' % 64) = false
        simp
      rw [e2]
      by_cases c : w' < 32
      · rw [(g_k2' hw').2 (fun q => by omega), Bool.and_false]
      · rw [decide_eq_false c, Bool.false_and]
  · rw [if_neg h]
    simp -implicitDefEqProofs only [if_neg h] at hQ
    exact hQ z v (rom_rf hz) (cor_rf v)
end GE
