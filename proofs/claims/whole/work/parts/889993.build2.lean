/-! ===== what the constructors build: the wishes, the told, the whole, the reader ===== -/
set_option maxHeartbeats 4000000
set_option maxRecDepth 4000
section KW
variable {d b : Nat} {z : xZ} {v : xV} {Q : xZ → xV → xv → Prop}
def wRows : List Cd := [(100, 4, [], []), (100, 4, [], []), (100, 4, [], []), (100, 4, [], []), (100, 4, [], []), (100, 4, [], []), (100, 4, [], []), (100, 4, [], [])]
def wRef (n : Nat) : List (Nat × Nat) := [(0, n + 1), (1, n + 2), (2, n + 3), (3, n + 4), (4, n + 5), (5, n + 6), (6, n + 7), (7, n + 8)]
theorem wRef_k (n k : Nat) : (if k < 8 then n + 1 + k else 0) = rlk (wRef n) k := by
  unfold wRef
  simp -implicitDefEqProofs only [rlk]
  by_cases c : k < 8
  · rw [if_pos c]
    have c' : k = 0 ∨ k = 1 ∨ k = 2 ∨ k = 3 ∨ k = 4 ∨ k = 5 ∨ k = 6 ∨ k = 7 := by omega
    rcases c' with rfl | rfl | rfl | rfl | rfl | rfl | rfl | rfl <;> rfl
  · rw [if_neg c, if_neg (by omega), if_neg (by omega), if_neg (by omega), if_neg (by omega), if_neg (by omega), if_neg (by omega), if_neg (by omega), if_neg (by omega)]
theorem Bd_multi {z0 : xZ} {v0 : xV} {o : Cd} {n s : Nat} (h : Bd b z0 v0 o [] n s z v) : Bd b z0 v0 o ((105, 8, wRef n, []) :: wRows) (n + 9) (s + 40) (nwZM z 8 4) (nwVM v n 8) := by
  have e : z.1 = n := h.hn
  have hl : n = b + 1 := h.hl
  have off : ∀ a, a < n → zh (nwZM z 8 4) a = zh z a ∧ zl (nwZM z 8 4) a = zl z a ∧ zr (nwZM z 8 4) a = zr z a ∧ nwVM v n 8 a = v a := fun a ha => by
    refine ⟨?_, ?_, funext fun k => ?_, funext fun k => ?_⟩
    · show (if a = z.1 then _ else if z.1 < a ∧ a ≤ z.1 + 8 then _ else _) = _
      rw [if_neg (by omega), if_neg (by omega)]; rfl
    · show (if a = z.1 then _ else if z.1 < a ∧ a ≤ z.1 + 8 then _ else _) = _
      rw [if_neg (by omega), if_neg (by omega)]; rfl
    · show (if a = z.1 then _ else if z.1 < a ∧ a ≤ z.1 + 8 then _ else _) = _
      rw [if_neg (by omega), if_neg (by omega)]; rfl
    · show (if n ≤ a ∧ a ≤ n + 8 then _ else _) = _
      rw [if_neg (by omega)]
  have row : ∀ i, 1 ≤ i → i ≤ 8 → Cel (nwZM z 8 4) (nwVM v n 8) (n + i) (100, 4, [], []) := fun i i1 i2 => by
    refine ⟨?_, ?_, fun k => ?_, fun k => ?_⟩
    · show (if n + i = z.1 then _ else if z.1 < n + i ∧ n + i ≤ z.1 + 8 then _ else _) = _
      rw [if_neg (by omega), if_pos (by omega)]
    · show (if n + i = z.1 then _ else if z.1 < n + i ∧ n + i ≤ z.1 + 8 then _ else _) = _
      rw [if_neg (by omega), if_pos (by omega)]
    · show (if n + i = z.1 then _ else if z.1 < n + i ∧ n + i ≤ z.1 + 8 then _ else _) = _
      rw [if_neg (by omega), if_pos (by omega)]; rfl
    · show (if n ≤ n + i ∧ n + i ≤ n + 8 then _ else _) = _
      rw [if_pos (by omega)]; rfl
  refine ⟨?_, ?_, ?_, Cel_fr (off b (by omega)) h.ob, ⟨⟨?_, ?_, fun k => ?_, fun k => ?_⟩, ?_⟩, ?_⟩
  · show z.1 + 1 + 8 = n + 9
    omega
  · show n + 9 = b + 1 + 9
    omega
  · show z.2.1 + (8 + 8 * 4) = zs z0 + (s + 40)
    have := h.hs
    unfold zs at this ⊢
    omega
  · rw [← hl]
    show (if n = z.1 then _ else _) = _
    rw [if_pos e.symm]
  · rw [← hl]
    show (if n = z.1 then _ else _) = _
    rw [if_pos e.symm]
  · rw [← hl]
    show (if n = z.1 then (if k < 8 then z.1 + 1 + k else 0) else _) = rlk (wRef n) k
    rw [if_pos e.symm, e]
    exact wRef_k n k
  · rw [← hl]
    show (if n ≤ n ∧ n ≤ n + 8 then _ else _) = _
    rw [if_pos (by omega)]; rfl
  · rw [← hl]
    exact ⟨row 1 (by omega) (by omega), row 2 (by omega) (by omega), row 3 (by omega) (by omega), row 4 (by omega) (by omega), row 5 (by omega) (by omega), row 6 (by omega) (by omega), row 7 (by omega) (by omega), row 8 (by omega) (by omega), trivial⟩
  · exact fun a ha => by
      obtain ⟨q1, q2, q3, q4⟩ := off a (by omega)
      obtain ⟨r1, r2, r3, r4⟩ := h.fr a ha
      exact ⟨q1.trans r1, q2.trans r2, q3.trans r3, q4.trans r4⟩
/-- the wishes' rows, i of them done, and k of the next -/
def WV (b i k : Nat) (v1 v : xV) : Prop := (∀ a, (a < b + 2 ∨ b + 9 < a) → v a = v1 a) ∧ ∀ i', i' < 8 → ∀ k', v (b + 2 + i') k' = if (i' < i ∨ (i' = i ∧ k' < k)) ∧ k' < 4 then (k' : Int) else 0
theorem w_in {v1 : xV} {u : List xv} {i : Nat} (hi : i < 8) (f1 : zh z b = 7) (f2 : zr z b 0 = b + 1) (f3 : zh z (b + 1) = 105) (f4 : zl z (b + 1) = 8) (f5 : zr z (b + 1) i = b + 2 + i) (f6 : zh z (b + 2 + i) = 100) (f7 : zl z (b + 2 + i) = 4) (hQ : ∀ v u, WV b (i + 1) 0 v1 v → xGo (EvM TB d) (TB 8) Q 17 (.inr (.inl b) :: .inl ((i + 1 : Nat) : Int) :: u) [] z v) : ∀ (m k : Nat) (v : xV), k + m = 4 → WV b i k v1 v → xGo (EvM TB d) (TB 8) Q 28 (.inr (.inl b) :: .inl (i : Int) :: .inl (k : Int) :: u) [] z v := by
  intro m
  induction m with
  | zero =>
    intro k v hk h
    obtain rfl : k = 4 := by omega
    have c0 : ¬ (((4 : Nat) : Int) < 4) := by decide
    have es := wr_s (show i < 1000000 by omega)
    rw [l_8_28]
    simp -implicitDefEqProofs only [lay_n, lay_i, lay_a, lay_l, x_nil, x_iconst, x_lconst, x_ldc, x_iload, x_aload, x_lload, x_istore, x_astore, x_lstore, x_iinc, x_iadd, x_isub, x_imul, x_idiv, x_irem, x_ineg, x_iand, x_ior, x_ixor, x_ishl, x_ishr, x_iushr, x_i2b, x_i2c, x_i2l, x_l2i, x_ladd, x_lsub, x_lmul, x_land, x_lor, x_lxor, x_ldiv, x_lrem, x_lneg, x_lshl, x_lushr, x_lcmp, x_max, x_min, x_abs, x_labs, x_lmax, x_dupI, x_dupA, x_dup2, x_popI, x_popA, x_goto, x_eq, x_ne, x_lt, x_ge, x_gt, x_le, x_ceq, x_cne, x_clt, x_cge, x_cgt, x_cle, x_sw, x_getI, x_getR, x_putI, x_putZ, x_putR, x_new, x_newI, x_newC, x_newL, x_anew, x_multi, x_alen, x_iald, x_cald, x_bald, x_lald, x_aald, x_iast, x_cast, x_last, x_aast, x_copy, x_obj, x_call, x_callL, x_iret, x_zret, x_cret, x_bret, x_lret, x_ret, ldI_i, ldA_a, ldL_l, nth_0, nth_s, sto_n0, sto_ns, sto_0, sto_i, sto_a, sto_l0, sto_ls, psh_t, psh_f, spl, splL, sh4, rcv, swK, stoL, clr, reduceIte, Int.reduceEq, Int.reduceLT, Int.reduceLE, Int.reduceAdd, Int.reduceSub, Int.reduceNeg, or_true, true_or, or_false, false_or, false_and, and_false, not_false_eq_true, not_true_eq_false, ne_eq, Nat.reduceDiv, Nat.reduceMod, Nat.reduceAdd, Nat.reduceMul, Nat.reduceBEq, Int.reduceToNat, Int.toNat_natCast, Nat.reduceEqDiff, Nat.reduceLT, Nat.reduceLeDiff, beq_self_eq_true, beq_iff_eq, true_and, and_true, Bool.false_eq_true, ite_self, Int.reduceTMod, Int.reduceTDiv, List.tail_cons, List.cons_append, List.nil_append, Nat.zero_add, c0, g_8_48, es]
    clear es
    refine hQ v _ ⟨h.1, fun i' h' k' => ?_⟩
    rw [h.2 i' h' k']
    by_cases c : (i' < i ∨ (i' = i ∧ k' < 4)) ∧ k' < 4
    · rw [if_pos c, if_pos (by omega)]
    · rw [if_neg c, if_neg (by omega)]
  | succ m ih =>
    intro k v hk h
    have c1 : (k : Int) < 4 := by omega
    have b0 : (0 : Int) ≤ (i : Int) ∧ (i : Int) < ((8 : Nat) : Int) := by omega
    have b1 : (0 : Int) ≤ (k : Int) ∧ (k : Int) < ((4 : Nat) : Int) := by omega
    have es := wr_s (show k < 1000000 by omega)
    rw [l_8_28]
    simp -implicitDefEqProofs only [lay_n, lay_i, lay_a, lay_l, x_nil, x_iconst, x_lconst, x_ldc, x_iload, x_aload, x_lload, x_istore, x_astore, x_lstore, x_iinc, x_iadd, x_isub, x_imul, x_idiv, x_irem, x_ineg, x_iand, x_ior, x_ixor, x_ishl, x_ishr, x_iushr, x_i2b, x_i2c, x_i2l, x_l2i, x_ladd, x_lsub, x_lmul, x_land, x_lor, x_lxor, x_ldiv, x_lrem, x_lneg, x_lshl, x_lushr, x_lcmp, x_max, x_min, x_abs, x_labs, x_lmax, x_dupI, x_dupA, x_dup2, x_popI, x_popA, x_goto, x_eq, x_ne, x_lt, x_ge, x_gt, x_le, x_ceq, x_cne, x_clt, x_cge, x_cgt, x_cle, x_sw, x_getI, x_getR, x_putI, x_putZ, x_putR, x_new, x_newI, x_newC, x_newL, x_anew, x_multi, x_alen, x_iald, x_cald, x_bald, x_lald, x_aald, x_iast, x_cast, x_last, x_aast, x_copy, x_obj, x_call, x_callL, x_iret, x_zret, x_cret, x_bret, x_lret, x_ret, ldI_i, ldA_a, ldL_l, nth_0, nth_s, sto_n0, sto_ns, sto_0, sto_i, sto_a, sto_l0, sto_ls, psh_t, psh_f, spl, splL, sh4, rcv, swK, stoL, clr, reduceIte, Int.reduceEq, Int.reduceLT, Int.reduceLE, Int.reduceAdd, Int.reduceSub, Int.reduceNeg, or_true, true_or, or_false, false_or, false_and, and_false, not_false_eq_true, not_true_eq_false, ne_eq, Nat.reduceDiv, Nat.reduceMod, Nat.reduceAdd, Nat.reduceMul, Nat.reduceBEq, Int.reduceToNat, Int.toNat_natCast, Nat.reduceEqDiff, Nat.reduceLT, Nat.reduceLeDiff, beq_self_eq_true, beq_iff_eq, true_and, and_true, Bool.false_eq_true, ite_self, Int.reduceTMod, Int.reduceTDiv, List.tail_cons, List.cons_append, List.nil_append, Nat.zero_add, c1, f1, f2, f3, f4, f5, f6, f7, b0, b1, es]
    clear es
    refine ih (k + 1) _ (by omega) ⟨fun a ha => by rw [up_off _ _ _ (by omega)]; exact h.1 a ha, fun i' h' k' => ?_⟩
    rw [up_ap]
    by_cases c : b + 2 + i' = b + 2 + i ∧ k' = k
    · obtain ⟨c2, rfl⟩ := c
      rw [if_pos ⟨c2, rfl⟩, if_pos (by omega)]
    · rw [if_neg c, h.2 i' h' k']
      by_cases c3 : (i' < i ∨ (i' = i ∧ k' < k)) ∧ k' < 4
      · rw [if_pos c3, if_pos (by omega)]
      · rw [if_neg c3, if_neg (by omega)]
theorem w_out {v1 : xV} (f1 : zh z b = 7) (f2 : zr z b 0 = b + 1) (f3 : zh z (b + 1) = 105) (f4 : zl z (b + 1) = 8) (f5 : ∀ i, i < 8 → zr z (b + 1) i = b + 2 + i) (f6 : ∀ i, i < 8 → zh z (b + 2 + i) = 100) (f7 : ∀ i, i < 8 → zl z (b + 2 + i) = 4) (hQ : ∀ v, WV b 8 0 v1 v → Q z v (.inl 0)) : ∀ (m i : Nat) (v : xV) (u : List xv), i + m = 8 → WV b i 0 v1 v → xGo (EvM TB d) (TB 8) Q 17 (.inr (.inl b) :: .inl (i : Int) :: u) [] z v := by
  intro m
  induction m with
  | zero =>
    intro i v u hi h
    obtain rfl : i = 8 := by omega
    have c0 : ¬ (((8 : Nat) : Int) < ((8 : Nat) : Int)) := by decide
    rw [l_8_17]
    simp -implicitDefEqProofs only [lay_n, lay_i, lay_a, lay_l, x_nil, x_iconst, x_lconst, x_ldc, x_iload, x_aload, x_lload, x_istore, x_astore, x_lstore, x_iinc, x_iadd, x_isub, x_imul, x_idiv, x_irem, x_ineg, x_iand, x_ior, x_ixor, x_ishl, x_ishr, x_iushr, x_i2b, x_i2c, x_i2l, x_l2i, x_ladd, x_lsub, x_lmul, x_land, x_lor, x_lxor, x_ldiv, x_lrem, x_lneg, x_lshl, x_lushr, x_lcmp, x_max, x_min, x_abs, x_labs, x_lmax, x_dupI, x_dupA, x_dup2, x_popI, x_popA, x_goto, x_eq, x_ne, x_lt, x_ge, x_gt, x_le, x_ceq, x_cne, x_clt, x_cge, x_cgt, x_cle, x_sw, x_getI, x_getR, x_putI, x_putZ, x_putR, x_new, x_newI, x_newC, x_newL, x_anew, x_multi, x_alen, x_iald, x_cald, x_bald, x_lald, x_aald, x_iast, x_cast, x_last, x_aast, x_copy, x_obj, x_call, x_callL, x_iret, x_zret, x_cret, x_bret, x_lret, x_ret, ldI_i, ldA_a, ldL_l, nth_0, nth_s, sto_n0, sto_ns, sto_0, sto_i, sto_a, sto_l0, sto_ls, psh_t, psh_f, spl, splL, sh4, rcv, swK, stoL, clr, reduceIte, Int.reduceEq, Int.reduceLT, Int.reduceLE, Int.reduceAdd, Int.reduceSub, Int.reduceNeg, or_true, true_or, or_false, false_or, false_and, and_false, not_false_eq_true, not_true_eq_false, ne_eq, Nat.reduceDiv, Nat.reduceMod, Nat.reduceAdd, Nat.reduceMul, Nat.reduceBEq, Int.reduceToNat, Int.toNat_natCast, Nat.reduceEqDiff, Nat.reduceLT, Nat.reduceLeDiff, beq_self_eq_true, beq_iff_eq, true_and, and_true, Bool.false_eq_true, ite_self, Int.reduceTMod, Int.reduceTDiv, List.tail_cons, List.cons_append, List.nil_append, Nat.zero_add, f1, f2, f3, f4, c0, g_8_54]
    exact hQ v h
  | succ m ih =>
    intro i v u hi h
    have c1 : (i : Int) < ((8 : Nat) : Int) := by omega
    rw [l_8_17]
    simp -implicitDefEqProofs only [lay_n, lay_i, lay_a, lay_l, x_nil, x_iconst, x_lconst, x_ldc, x_iload, x_aload, x_lload, x_istore, x_astore, x_lstore, x_iinc, x_iadd, x_isub, x_imul, x_idiv, x_irem, x_ineg, x_iand, x_ior, x_ixor, x_ishl, x_ishr, x_iushr, x_i2b, x_i2c, x_i2l, x_l2i, x_ladd, x_lsub, x_lmul, x_land, x_lor, x_lxor, x_ldiv, x_lrem, x_lneg, x_lshl, x_lushr, x_lcmp, x_max, x_min, x_abs, x_labs, x_lmax, x_dupI, x_dupA, x_dup2, x_popI, x_popA, x_goto, x_eq, x_ne, x_lt, x_ge, x_gt, x_le, x_ceq, x_cne, x_clt, x_cge, x_cgt, x_cle, x_sw, x_getI, x_getR, x_putI, x_putZ, x_putR, x_new, x_newI, x_newC, x_newL, x_anew, x_multi, x_alen, x_iald, x_cald, x_bald, x_lald, x_aald, x_iast, x_cast, x_last, x_aast, x_copy, x_obj, x_call, x_callL, x_iret, x_zret, x_cret, x_bret, x_lret, x_ret, ldI_i, ldA_a, ldL_l, nth_0, nth_s, sto_n0, sto_ns, sto_0, sto_i, sto_a, sto_l0, sto_ls, psh_t, psh_f, spl, splL, sh4, rcv, swK, stoL, clr, reduceIte, Int.reduceEq, Int.reduceLT, Int.reduceLE, Int.reduceAdd, Int.reduceSub, Int.reduceNeg, or_true, true_or, or_false, false_or, false_and, and_false, not_false_eq_true, not_true_eq_false, ne_eq, Nat.reduceDiv, Nat.reduceMod, Nat.reduceAdd, Nat.reduceMul, Nat.reduceBEq, Int.reduceToNat, Int.toNat_natCast, Nat.reduceEqDiff, Nat.reduceLT, Nat.reduceLeDiff, beq_self_eq_true, beq_iff_eq, true_and, and_true, Bool.false_eq_true, ite_self, Int.reduceTMod, Int.reduceTDiv, List.tail_cons, List.cons_append, List.nil_append, Nat.zero_add, f1, f2, f3, f4, c1, sto_t]
    exact w_in (by omega) f1 f2 f3 f4 (f5 i (by omega)) (f6 i (by omega)) (f7 i (by omega)) (fun v u h => ih (i + 1) v u (by omega) h) 4 0 v rfl h
theorem k_wishes (hn : zn z = b + 1) (hc : Cel z v b (7, 0, [], [])) (hQ : ∀ z' v', zn z' = b + 10 → zs z' = zs z + 40 → Fr b z v z' v' → Seg z' v' b (wishT b) → Q z' v' (.inl 0)) : EvM TB (d + 1) 8 z v [.inr (.inl b)] Q := by
  have h := Bd_0 hn hc
  rw [e_ev]
  simp -implicitDefEqProofs only [lay_a, lay_i, lay_n]
  rw [g_8_0]
  simp -implicitDefEqProofs only [x_aload, nth_0, nth_s, ldA_a, ldI_i, x_iconst]
  refine xb_obj h (by decide) ?_
  simp -implicitDefEqProofs only [x_aload, nth_0, nth_s, ldA_a, ldI_i, x_iconst]
  rw [x_multi, show z.1 = b + 1 from hn]
  refine ⟨by decide, ?_⟩
  have h := Bd_multi h
  have h2 : ∀ z1 v1, Bd b z v (7, 0, [], []) ((105, 8, wRef (b + 1), []) :: wRows) (b + 1 + 9) (0 + 40) z1 v1 → xs (EvM TB d) (xGo (EvM TB d) (TB 8) Q) 17 Q [.checkcast 896, .iconst 0, .istore 1] [.inr (.inl b)] [.inr (.inl (b + 1)), .inr (.inl b)] z1 v1 := by
    intro z1 v1 h
    refine xb_putR h (by decide) (fun z1 h => ?_)
    simp -implicitDefEqProofs only [x_iconst, x_istore, sto_a, sto_n0, x_nil]
    have s1 := h.sg.1
    have cr : ∀ i, i < 8 → Cel z1 v1 (b + 2 + i) (100, 4, [], []) := fun i hi => by
      have c' : i = 0 ∨ i = 1 ∨ i = 2 ∨ i = 3 ∨ i = 4 ∨ i = 5 ∨ i = 6 ∨ i = 7 := by omega
      rcases c' with rfl | rfl | rfl | rfl | rfl | rfl | rfl | rfl
      all_goals exact Seg_at wRows (b + 1 + 1) _ _ h.sg.2 rfl
    refine w_out (v1 := v1) h.ob.1 (h.ob.2.2.1 0) s1.1 s1.2.1 (fun i hi => ?_) (fun i hi => (cr i hi).1) (fun i hi => (cr i hi).2.1) (fun v2 hw => ?_) 8 0 v1 [] rfl ⟨fun _ _ => rfl, fun i' h' k' => ?_⟩
    · rw [s1.2.2.1 i, ← wRef_k (b + 1) i, if_pos hi]
    · have row : ∀ i, i < 8 → Cel z1 v2 (b + 2 + i) (100, 4, [], [(3, 3), (2, 2), (1, 1), (0, 0)]) := fun i hi => by
        refine ⟨(cr i hi).1, (cr i hi).2.1, (cr i hi).2.2.1, fun k => ?_⟩
        rw [hw.2 i hi k]
        show _ = if k = 3 then (3 : Int) else if k = 2 then 2 else if k = 1 then 1 else if k = 0 then 0 else 0
        by_cases ck : k < 4
        · rw [if_pos (by omega)]
          have c' : k = 0 ∨ k = 1 ∨ k = 2 ∨ k = 3 := by omega
          rcases c' with rfl | rfl | rfl | rfl <;> rfl
        · rw [if_neg (by omega), if_neg (by omega), if_neg (by omega), if_neg (by omega), if_neg (by omega)]
      refine hQ _ _ h.hn h.hs (fun a ha => ?_) ⟨Cel_fr ⟨rfl, rfl, rfl, hw.1 b (by omega)⟩ h.ob, Cel_fr ⟨rfl, rfl, rfl, hw.1 (b + 1) (by omega)⟩ s1, row 0 (by omega), row 1 (by omega), row 2 (by omega), row 3 (by omega), row 4 (by omega), row 5 (by omega), row 6 (by omega), row 7 (by omega), trivial⟩
      obtain ⟨r1, r2, r3, r4⟩ := h.fr a ha
      exact ⟨r1, r2, r3, (hw.1 a (by omega)).trans r4⟩
    · rw [if_neg (by omega)]
      exact (cr i' h').2.2.2 k'
  exact h2 _ _ h
end KW
section KK
variable {d b : Nat} {z : xZ} {v : xV} {Q : xZ → xV → xv → Prop}
theorem k_told  (hn : zn z = b + 1) (hc : Cel z v b (4, 0, [], [])) (hQ : ∀ z' v', zn z' = b + 20 → zs z' = zs z + 108 → Fr b z v z' v' → Seg z' v' b (toldT b) → Q z' v' (.inl 0)) : EvM TB (d + 2) 6 z v [.inr (.inl b)] Q := by
  have h := Bd_0 hn hc
  rw [e_ev]
  simp -implicitDefEqProofs only [lay_a, lay_i, lay_n]
  rw [g_6_0]
  simp -implicitDefEqProofs only [x_aload, nth_0, nth_s, ldA_a, ldI_i, x_iconst, x_iload, x_dupA, x_dupI, x_nil, g_6_0, g_6_81]
  refine xb_obj h (by decide) ?_
  try simp -implicitDefEqProofs only [x_aload, nth_0, nth_s, ldA_a, ldI_i, x_iconst, x_iload, x_dupA, x_dupI, x_nil, g_6_0, g_6_81]
  refine xb_newI h (by decide) (fun z1 v1 h => ?_)
  refine xb_putR h (by decide) (fun z1 h => ?_)
  try simp -implicitDefEqProofs only [x_aload, nth_0, nth_s, ldA_a, ldI_i, x_iconst, x_iload, x_dupA, x_dupI, x_nil, g_6_0, g_6_81]
  refine xb_new h (fun z1 v1 h => ?_)
  try simp -implicitDefEqProofs only [x_aload, nth_0, nth_s, ldA_a, ldI_i, x_iconst, x_iload, x_dupA, x_dupI, x_nil, g_6_0, g_6_81]
  refine xb_c4 (kind := 5) (by decide) (by decide) (by decide) (Bd_last h).2.1 rfl ?_
  refine k_row (c := 12) (by decide) (Bd_last h).1 (Bd_last h).2 (fun z2 v2 c1 c2 c3 c4 => ?_)
  have h := Bd_child h rfl c1 c2 c3 c4
  refine xb_putR h (by decide) (fun z1 h => ?_)
  try simp -implicitDefEqProofs only [x_aload, nth_0, nth_s, ldA_a, ldI_i, x_iconst, x_iload, x_dupA, x_dupI, x_nil, g_6_0, g_6_81]
  refine xb_new h (fun z1 v1 h => ?_)
  try simp -implicitDefEqProofs only [x_aload, nth_0, nth_s, ldA_a, ldI_i, x_iconst, x_iload, x_dupA, x_dupI, x_nil, g_6_0, g_6_81]
  refine xb_c4 (kind := 5) (by decide) (by decide) (by decide) (Bd_last h).2.1 rfl ?_
  refine k_row (c := 12) (by decide) (Bd_last h).1 (Bd_last h).2 (fun z2 v2 c1 c2 c3 c4 => ?_)
  have h := Bd_child h rfl c1 c2 c3 c4
  refine xb_putR h (by decide) (fun z1 h => ?_)
  try simp -implicitDefEqProofs only [x_aload, nth_0, nth_s, ldA_a, ldI_i, x_iconst, x_iload, x_dupA, x_dupI, x_nil, g_6_0, g_6_81]
  refine xb_new h (fun z1 v1 h => ?_)
  try simp -implicitDefEqProofs only [x_aload, nth_0, nth_s, ldA_a, ldI_i, x_iconst, x_iload, x_dupA, x_dupI, x_nil, g_6_0, g_6_81]
  refine xb_c4 (kind := 5) (by decide) (by decide) (by decide) (Bd_last h).2.1 rfl ?_
  refine k_row (c := 9) (by decide) (Bd_last h).1 (Bd_last h).2 (fun z2 v2 c1 c2 c3 c4 => ?_)
  have h := Bd_child h rfl c1 c2 c3 c4
  refine xb_putR h (by decide) (fun z1 h => ?_)
  try simp -implicitDefEqProofs only [x_aload, nth_0, nth_s, ldA_a, ldI_i, x_iconst, x_iload, x_dupA, x_dupI, x_nil, g_6_0, g_6_81]
  refine xb_new h (fun z1 v1 h => ?_)
  try simp -implicitDefEqProofs only [x_aload, nth_0, nth_s, ldA_a, ldI_i, x_iconst, x_iload, x_dupA, x_dupI, x_nil, g_6_0, g_6_81]
  refine xb_c4 (kind := 5) (by decide) (by decide) (by decide) (Bd_last h).2.1 rfl ?_
  refine k_row (c := 10) (by decide) (Bd_last h).1 (Bd_last h).2 (fun z2 v2 c1 c2 c3 c4 => ?_)
  have h := Bd_child h rfl c1 c2 c3 c4
  refine xb_putR h (by decide) (fun z1 h => ?_)
  try simp -implicitDefEqProofs only [x_aload, nth_0, nth_s, ldA_a, ldI_i, x_iconst, x_iload, x_dupA, x_dupI, x_nil, g_6_0, g_6_81]
  refine xb_new h (fun z1 v1 h => ?_)
  try simp -implicitDefEqProofs only [x_aload, nth_0, nth_s, ldA_a, ldI_i, x_iconst, x_iload, x_dupA, x_dupI, x_nil, g_6_0, g_6_81]
  refine xb_c1 (kind := 7) (by decide) (by decide) (by decide) (Bd_last h).2.1 rfl ?_
  refine k_wishes (Bd_last h).1 (Bd_last h).2 (fun z2 v2 c1 c2 c3 c4 => ?_)
  have h := Bd_child h rfl c1 c2 c3 c4
  refine xb_putR h (by decide) (fun z1 h => ?_)
  rw [x_ret]
  exact hQ _ _ h.hn h.hs h.fr ⟨h.ob, h.sg⟩
theorem k_reader  (hn : zn z = b + 1) (hc : Cel z v b (8, 0, [], [])) (hQ : ∀ z' v', zn z' = b + 13 → zs z' = zs z + 1355 → Fr b z v z' v' → Seg z' v' b (readT b) → Q z' v' (.inl 0)) : EvM TB (d + 2) 9 z v [.inr (.inl b)] Q := by
  have h := Bd_0 hn hc
  rw [e_ev]
  simp -implicitDefEqProofs only [lay_a, lay_i, lay_n]
  rw [g_9_0]
  simp -implicitDefEqProofs only [x_aload, nth_0, nth_s, ldA_a, ldI_i, x_iconst, x_iload, x_dupA, x_dupI, x_nil, g_9_0]
  refine xb_obj h (by decide) ?_
  try simp -implicitDefEqProofs only [x_aload, nth_0, nth_s, ldA_a, ldI_i, x_iconst, x_iload, x_dupA, x_dupI, x_nil, g_9_0]
  refine xb_new h (fun z1 v1 h => ?_)
  try simp -implicitDefEqProofs only [x_aload, nth_0, nth_s, ldA_a, ldI_i, x_iconst, x_iload, x_dupA, x_dupI, x_nil, g_9_0]
  refine xb_c1 (kind := 9) (by decide) (by decide) (by decide) (Bd_last h).2.1 rfl ?_
  refine k_tokens (Bd_last h).1 (Bd_last h).2 (fun z2 v2 c1 c2 c3 c4 => ?_)
  have h := Bd_child h rfl c1 c2 c3 c4
  refine xb_putR h (by decide) (fun z1 h => ?_)
  try simp -implicitDefEqProofs only [x_aload, nth_0, nth_s, ldA_a, ldI_i, x_iconst, x_iload, x_dupA, x_dupI, x_nil, g_9_0]
  refine xb_new h (fun z1 v1 h => ?_)
  try simp -implicitDefEqProofs only [x_aload, nth_0, nth_s, ldA_a, ldI_i, x_iconst, x_iload, x_dupA, x_dupI, x_nil, g_9_0]
  refine xb_c1 (kind := 2) (by decide) (by decide) (by decide) (Bd_last h).2.1 rfl ?_
  refine k_law (Bd_last h).1 (Bd_last h).2 (fun z2 v2 c1 c2 c3 c4 => ?_)
  have h := Bd_child h rfl c1 c2 c3 c4
  refine xb_putR h (by decide) (fun z1 h => ?_)
  try simp -implicitDefEqProofs only [x_aload, nth_0, nth_s, ldA_a, ldI_i, x_iconst, x_iload, x_dupA, x_dupI, x_nil, g_9_0]
  refine xb_newI h (by decide) (fun z1 v1 h => ?_)
  refine xb_putR h (by decide) (fun z1 h => ?_)
  rw [x_ret]
  exact hQ _ _ h.hn h.hs h.fr ⟨h.ob, h.sg⟩
theorem k_whole  (hn : zn z = b + 1) (hc : Cel z v b (1, 0, [], [])) (hQ : ∀ z' v', zn z' = b + 53 → zs z' = zs z + 1694 → Fr b z v z' v' → Seg z' v' b (wholeT b) → Q z' v' (.inl 0)) : EvM TB (d + 3) 2 z v [.inr (.inl b)] Q := by
  have h := Bd_0 hn hc
  rw [e_ev]
  simp -implicitDefEqProofs only [lay_a, lay_i, lay_n]
  rw [g_2_0]
  simp -implicitDefEqProofs only [x_aload, nth_0, nth_s, ldA_a, ldI_i, x_iconst, x_iload, x_dupA, x_dupI, x_nil, g_2_0]
  refine xb_obj h (by decide) ?_
  try simp -implicitDefEqProofs only [x_aload, nth_0, nth_s, ldA_a, ldI_i, x_iconst, x_iload, x_dupA, x_dupI, x_nil, g_2_0]
  refine xb_new h (fun z1 v1 h => ?_)
  try simp -implicitDefEqProofs only [x_aload, nth_0, nth_s, ldA_a, ldI_i, x_iconst, x_iload, x_dupA, x_dupI, x_nil, g_2_0]
  refine xb_c2 (kind := 6) (by decide) (by decide) (by decide) (Bd_last h).2.1 rfl ?_
  refine k_scene (b := _) (by decide) (Bd_last h).1 (Bd_last h).2 (fun z2 v2 c1 c2 c3 c4 => ?_)
  have h := Bd_child h rfl c1 c2 c3 c4
  refine xb_putR h (by decide) (fun z1 h => ?_)
  try simp -implicitDefEqProofs only [x_aload, nth_0, nth_s, ldA_a, ldI_i, x_iconst, x_iload, x_dupA, x_dupI, x_nil, g_2_0]
  refine xb_new h (fun z1 v1 h => ?_)
  try simp -implicitDefEqProofs only [x_aload, nth_0, nth_s, ldA_a, ldI_i, x_iconst, x_iload, x_dupA, x_dupI, x_nil, g_2_0]
  refine xb_c1 (kind := 2) (by decide) (by decide) (by decide) (Bd_last h).2.1 rfl ?_
  refine k_law (Bd_last h).1 (Bd_last h).2 (fun z2 v2 c1 c2 c3 c4 => ?_)
  have h := Bd_child h rfl c1 c2 c3 c4
  refine xb_putR h (by decide) (fun z1 h => ?_)
  try simp -implicitDefEqProofs only [x_aload, nth_0, nth_s, ldA_a, ldI_i, x_iconst, x_iload, x_dupA, x_dupI, x_nil, g_2_0]
  refine xb_new h (fun z1 v1 h => ?_)
  try simp -implicitDefEqProofs only [x_aload, nth_0, nth_s, ldA_a, ldI_i, x_iconst, x_iload, x_dupA, x_dupI, x_nil, g_2_0]
  refine xb_c1 (kind := 3) (by decide) (by decide) (by decide) (Bd_last h).2.1 rfl ?_
  refine k_lines (Bd_last h).1 (Bd_last h).2 (fun z2 v2 c1 c2 c3 c4 => ?_)
  have h := Bd_child h rfl c1 c2 c3 c4
  refine xb_putR h (by decide) (fun z1 h => ?_)
  try simp -implicitDefEqProofs only [x_aload, nth_0, nth_s, ldA_a, ldI_i, x_iconst, x_iload, x_dupA, x_dupI, x_nil, g_2_0]
  refine xb_new h (fun z1 v1 h => ?_)
  try simp -implicitDefEqProofs only [x_aload, nth_0, nth_s, ldA_a, ldI_i, x_iconst, x_iload, x_dupA, x_dupI, x_nil, g_2_0]
  refine xb_c1 (kind := 3) (by decide) (by decide) (by decide) (Bd_last h).2.1 rfl ?_
  refine k_lines (Bd_last h).1 (Bd_last h).2 (fun z2 v2 c1 c2 c3 c4 => ?_)
  have h := Bd_child h rfl c1 c2 c3 c4
  refine xb_putR h (by decide) (fun z1 h => ?_)
  try simp -implicitDefEqProofs only [x_aload, nth_0, nth_s, ldA_a, ldI_i, x_iconst, x_iload, x_dupA, x_dupI, x_nil, g_2_0]
  refine xb_new h (fun z1 v1 h => ?_)
  try simp -implicitDefEqProofs only [x_aload, nth_0, nth_s, ldA_a, ldI_i, x_iconst, x_iload, x_dupA, x_dupI, x_nil, g_2_0]
  refine xb_c1 (kind := 4) (by decide) (by decide) (by decide) (Bd_last h).2.1 rfl ?_
  refine k_told (Bd_last h).1 (Bd_last h).2 (fun z2 v2 c1 c2 c3 c4 => ?_)
  have h := Bd_child h rfl c1 c2 c3 c4
  refine xb_putR h (by decide) (fun z1 h => ?_)
  try simp -implicitDefEqProofs only [x_aload, nth_0, nth_s, ldA_a, ldI_i, x_iconst, x_iload, x_dupA, x_dupI, x_nil, g_2_0]
  refine xb_newI h (by decide) (fun z1 v1 h => ?_)
  refine xb_putR h (by decide) (fun z1 h => ?_)
  rw [x_ret]
  exact hQ _ _ h.hn h.hs h.fr ⟨h.ob, h.sg⟩
end KK
