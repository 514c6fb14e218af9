/-! ===== stands: class ===== -/
theorem lbt_and (x y : Int64) (c : Nat) : lbt (x &&& y) c = (lbt x c && lbt y c) := by
  show (x.toBitVec &&& y.toBitVec).getLsbD c = _
  rw [BitVec.getLsbD_and]; rfl
theorem lbt_or (x y : Int64) (c : Nat) : lbt (x ||| y) c = (lbt x c || lbt y c) := by
  show (x.toBitVec ||| y.toBitVec).getLsbD c = _
  rw [BitVec.getLsbD_or]; rfl
theorem lbt_ge (x : Int64) {c : Nat} (h : 64 ≤ c) : lbt x c = false := BitVec.getLsbD_of_ge _ _ h
theorem lbt_l8 (x : Int64) {c : Nat} (hc : c < 64) : lbt (x <<< ((Int32.ofInt 8).toInt64 &&& 63)) c = (decide (8 ≤ c) && lbt x (c - 8)) := by
  show (x.toBitVec <<< (((Int32.ofInt 8).toInt64 &&& 63).toBitVec.smod 64)).getLsbD c = _
  rw [show ((Int32.ofInt 8).toInt64 &&& 63).toBitVec.smod 64 = 8#64 by decide +kernel, BitVec.shiftLeft_eq', BitVec.getLsbD_shiftLeft]
  show (decide (c < 64) && !decide (c < 8) && x.toBitVec.getLsbD (c - 8)) = _
  rw [decide_eq_true hc, Bool.true_and]
  by_cases h : c < 8
  · rw [decide_eq_true h, decide_eq_false (show ¬ 8 ≤ c by omega)]; rfl
  · rw [decide_eq_false h, decide_eq_true (show 8 ≤ c by omega)]; rfl
theorem lbt_l1 (x : Int64) {c : Nat} (hc : c < 64) : lbt (x <<< ((Int32.ofInt 1).toInt64 &&& 63)) c = (decide (1 ≤ c) && lbt x (c - 1)) := by
  show (x.toBitVec <<< (((Int32.ofInt 1).toInt64 &&& 63).toBitVec.smod 64)).getLsbD c = _
  rw [show ((Int32.ofInt 1).toInt64 &&& 63).toBitVec.smod 64 = 1#64 by decide +kernel, BitVec.shiftLeft_eq', BitVec.getLsbD_shiftLeft]
  show (decide (c < 64) && !decide (c < 1) && x.toBitVec.getLsbD (c - 1)) = _
  rw [decide_eq_true hc, Bool.true_and]
  by_cases h : c < 1
  · rw [decide_eq_true h, decide_eq_false (show ¬ 1 ≤ c by omega)]; rfl
  · rw [decide_eq_false h, decide_eq_true (show 1 ≤ c by omega)]; rfl
theorem lbt_r8 (x : Int64) (c : Nat) : lbt (shR x 8) c = lbt x (c + 8) := by
  unfold lbt
  rw [show (8 : Int) = ((8 : Nat) : Int) from rfl, shR_bv (by decide), BitVec.getLsbD_ushiftRight, Nat.add_comm]
theorem lbt_r1 (x : Int64) (c : Nat) : lbt (shR x 1) c = lbt x (c + 1) := by
  unfold lbt
  rw [show (1 : Int) = ((1 : Nat) : Int) from rfl, shR_bv (by decide), BitVec.getLsbD_ushiftRight, Nat.add_comm]
theorem edge_c : (allB 64 fun c => (lbt (Int64.ofInt (-72340172838076674)) c == !Nat.beq (c % 8) 0) && (lbt (Int64.ofInt 9187201950435737471) c == !Nat.beq (c % 8) 7) && (lbt (Int64.ofInt (-1)) c == true)) = true := by decide +kernel
theorem edge_s {c : Nat} (hc : c < 64) : lbt (Int64.ofInt (-72340172838076674)) c = !Nat.beq (c % 8) 0 ∧ lbt (Int64.ofInt 9187201950435737471) c = !Nat.beq (c % 8) 7 ∧ lbt (Int64.ofInt (-1)) c = true := by
  have h := allB_spec edge_c c hc
  simp -implicitDefEqProofs only [Bool.and_eq_true] at h
  exact ⟨eq_of_beq h.1.1, eq_of_beq h.1.2, eq_of_beq h.2⟩
theorem lbt_not (x : Int64) {c : Nat} (hc : c < 64) : lbt (x ^^^ Int64.ofInt (-1)) c = !lbt x c := by
  have e := (edge_s hc).2.2
  show (x.toBitVec ^^^ (Int64.ofInt (-1)).toBitVec).getLsbD c = _
  rw [BitVec.getLsbD_xor]
  show (lbt x c ^^ lbt (Int64.ofInt (-1)) c) = _
  rw [e]
  cases lbt x c <;> rfl
theorem lbt_low (x : Int64) {c : Nat} (hc : c < 64) : lbt (x &&& -x) c = true ↔ lbt x c = true ∧ ∀ j, j < c → lbt x j = false := by
  rw [lbt_and]
  have e : lbt (-x) c = (lbt x c ^^ (decide (c < 64) && decide (∃ j < c, lbt x j = true))) := by
    show (-x.toBitVec).getLsbD c = _
    rw [BitVec.getLsbD_neg]
    rfl
  rw [e, decide_eq_true hc, Bool.true_and]
  by_cases h : ∃ j < c, lbt x j = true
  · rw [decide_eq_true h]
    obtain ⟨j, hj, hx⟩ := h
    constructor
    · intro q
      cases hh : lbt x c <;> rw [hh] at q <;> cases q
    · rintro ⟨-, q⟩
      rw [q j hj] at hx; cases hx
  · rw [decide_eq_false h]
    constructor
    · intro q
      cases hh : lbt x c with
      | false => rw [hh] at q; cases q
      | true =>
        refine ⟨rfl, fun j hj => ?_⟩
        cases h2 : lbt x j with
        | false => rfl
        | true => exact absurd ⟨j, hj, h2⟩ h
    · rintro ⟨q, -⟩
      rw [q]; rfl
theorem lbt_zero {x : Int64} : (lg_cmp x (Int64.ofInt 0)).toInt = 0 ↔ ∀ c, c < 64 → lbt x c = false := by
  have e0 : (lg_cmp x (Int64.ofInt 0)).toInt = 0 ↔ x.toBitVec = 0#64 := by
    unfold lg_cmp
    by_cases c : x = Int64.ofInt 0
    · subst c
      rw [if_neg (by decide), if_pos rfl]
      exact ⟨fun _ => rfl, fun _ => rfl⟩
    · have hne : ¬ x.toBitVec = 0#64 := fun q => c (Int64.toBitVec.inj q)
      rw [if_neg c]
      by_cases c2 : x > Int64.ofInt 0
      · rw [if_pos c2]; exact ⟨fun q => absurd q (by decide), fun q => absurd q hne⟩
      · rw [if_neg c2]; exact ⟨fun q => absurd q (by decide), fun q => absurd q hne⟩
  rw [e0]
  constructor
  · intro h c hc
    unfold lbt
    rw [h]
    simp
  · intro h
    apply BitVec.eq_of_getLsbD_eq
    intro i hi
    rw [show x.toBitVec.getLsbD i = lbt x i from rfl, h i hi]
    simp
def flS (s w : Int64) : Int64 := s ||| (s <<< ((Int32.ofInt 8).toInt64 &&& 63) ||| shR s 8 ||| (s <<< ((Int32.ofInt 1).toInt64 &&& 63) &&& Int64.ofInt (-72340172838076674)) ||| (shR s 1 &&& Int64.ofInt 9187201950435737471)) &&& w
def fl (s w : Int64) : Nat → Int64
  | 0 => s
  | k + 1 => flS (fl s w k) w
theorem flS_bit (s w : Int64) {c : Nat} (hc : c < 64) : lbt (flS s w) c = true ↔ lbt s c = true ∨ (lbt w c = true ∧ ∃ x, x < 64 ∧ lbt s x = true ∧ nb x c) := by
  obtain ⟨e1, e2, -⟩ := edge_s hc
  unfold flS
  rw [lbt_or, lbt_and, lbt_or, lbt_or, lbt_or, lbt_and, lbt_and, lbt_l8 s hc, lbt_l1 s hc, lbt_r8, lbt_r1, e1, e2]
  have b0 : ∀ x y : Nat, (!Nat.beq x y) = true ↔ x ≠ y := by
    intro x y
    cases h : Nat.beq x y with
    | true => simp [Nat.eq_of_beq_eq_true h]
    | false => simp [Nat.ne_of_beq_eq_false h]
  simp -implicitDefEqProofs only [Bool.or_eq_true, Bool.and_eq_true, decide_eq_true_eq, b0]
  constructor
  · rintro (h | ⟨h, hw⟩)
    · exact .inl h
    · refine .inr ⟨hw, ?_⟩
      rcases h with ((⟨h1, h2⟩ | h2) | ⟨⟨h1, h2⟩, h3⟩) | ⟨h2, h3⟩
      · exact ⟨c - 8, by omega, h2, by unfold nb; omega⟩
      · have : c + 8 < 64 := by
          by_cases q : c + 8 < 64
          · exact q
          · rw [lbt_ge s (by omega)] at h2; cases h2
        exact ⟨c + 8, this, h2, by unfold nb; omega⟩
      · exact ⟨c - 1, by omega, h2, by unfold nb; omega⟩
      · have : c + 1 < 64 := by
          by_cases q : c + 1 < 64
          · exact q
          · rw [lbt_ge s (by omega)] at h2; cases h2
        exact ⟨c + 1, this, h2, by unfold nb; omega⟩
  · rintro (h | ⟨hw, x, hx, h1, n⟩)
    · exact .inl h
    · refine .inr ⟨?_, hw⟩
      rcases n with n | n | n | n
      · exact .inl (.inl (.inl ⟨by omega, by rw [show c - 8 = x by omega]; exact h1⟩))
      · exact .inl (.inl (.inr (by rw [← n]; exact h1)))
      · exact .inl (.inr ⟨⟨by omega, by rw [show c - 1 = x by omega]; exact h1⟩, by omega⟩)
      · exact .inr ⟨by rw [← n.1]; exact h1, by omega⟩
section ST
variable {d : Nat} {z : xZ} {v : xV} {Q : xZ → xV → xv → Prop}
theorem e_flL {s w : Int64} : ∀ (m k : Nat) (t : List xv), k + m = 64 →
    xGo (EvM TB d) (TB 106) Q 6 (.inr (.inr (.inl s)) :: .inr (.inr (.inr ())) :: .inr (.inr (.inl w)) :: .inr (.inr (.inr ())) :: .inr (.inr (.inl (fl s w k))) :: .inr (.inr (.inr ())) :: .inl k :: t) [] z v = Q z v (.inr (.inr (.inl (fl s w 64)))) := by
  intro m
  induction m with
  | zero =>
    intro k t hk
    obtain rfl : k = 64 := by omega
    rw [l_106_6]
    simp -implicitDefEqProofs only [lay_n, lay_i, lay_a, lay_l, x_nil, x_iconst, x_lconst, x_ldc, x_iload, x_aload, x_lload, x_istore, x_astore, x_lstore, x_iinc, x_iadd, x_isub, x_imul, x_idiv, x_irem, x_ineg, x_iand, x_ior, x_ixor, x_ishl, x_ishr, x_iushr, x_i2b, x_i2c, x_i2l, x_l2i, x_ladd, x_lsub, x_lmul, x_land, x_lor, x_lxor, x_ldiv, x_lrem, x_lneg, x_lshl, x_lushr, x_lcmp, x_max, x_min, x_abs, x_labs, x_lmax, x_dupI, x_dupA, x_dup2, x_popI, x_popA, x_goto, x_eq, x_ne, x_lt, x_ge, x_gt, x_le, x_ceq, x_cne, x_clt, x_cge, x_cgt, x_cle, x_sw, x_getI, x_getR, x_putI, x_putZ, x_putR, x_new, x_newI, x_newC, x_newL, x_anew, x_multi, x_alen, x_iald, x_cald, x_bald, x_lald, x_aald, x_iast, x_cast, x_last, x_aast, x_copy, x_obj, x_call, x_callL, x_iret, x_zret, x_cret, x_bret, x_lret, x_ret, ldI_i, ldA_a, ldL_l, nth_0, nth_s, sto_n0, sto_ns, sto_0, sto_i, sto_a, sto_l0, sto_ls, psh_t, psh_f, spl, splL, sh4, rcv, swK, stoL, clr, reduceIte, Int.reduceEq, Int.reduceLT, Int.reduceLE, Int.reduceAdd, Int.reduceSub, Int.reduceNeg, or_true, true_or, or_false, false_or, false_and, and_false, not_false_eq_true, not_true_eq_false, ne_eq, Nat.reduceDiv, Nat.reduceMod, Nat.reduceAdd, Nat.reduceMul, Nat.reduceBEq, Int.reduceToNat, Int.toNat_natCast, Nat.reduceEqDiff, Nat.reduceLT, Nat.reduceLeDiff, beq_self_eq_true, beq_iff_eq, true_and, and_true, Bool.false_eq_true, ite_self, Int.reduceTMod, Int.reduceTDiv, List.tail_cons, List.cons_append, List.nil_append, Nat.zero_add, g_106_0, g_106_59, show ¬ ((64 : Nat) : Int) < 64 by decide]
  | succ m ih =>
    intro k t hk
    rw [l_106_6]
    simp -implicitDefEqProofs only [lay_n, lay_i, lay_a, lay_l, x_nil, x_iconst, x_lconst, x_ldc, x_iload, x_aload, x_lload, x_istore, x_astore, x_lstore, x_iinc, x_iadd, x_isub, x_imul, x_idiv, x_irem, x_ineg, x_iand, x_ior, x_ixor, x_ishl, x_ishr, x_iushr, x_i2b, x_i2c, x_i2l, x_l2i, x_ladd, x_lsub, x_lmul, x_land, x_lor, x_lxor, x_ldiv, x_lrem, x_lneg, x_lshl, x_lushr, x_lcmp, x_max, x_min, x_abs, x_labs, x_lmax, x_dupI, x_dupA, x_dup2, x_popI, x_popA, x_goto, x_eq, x_ne, x_lt, x_ge, x_gt, x_le, x_ceq, x_cne, x_clt, x_cge, x_cgt, x_cle, x_sw, x_getI, x_getR, x_putI, x_putZ, x_putR, x_new, x_newI, x_newC, x_newL, x_anew, x_multi, x_alen, x_iald, x_cald, x_bald, x_lald, x_aald, x_iast, x_cast, x_last, x_aast, x_copy, x_obj, x_call, x_callL, x_iret, x_zret, x_cret, x_bret, x_lret, x_ret, ldI_i, ldA_a, ldL_l, nth_0, nth_s, sto_n0, sto_ns, sto_0, sto_i, sto_a, sto_l0, sto_ls, psh_t, psh_f, spl, splL, sh4, rcv, swK, stoL, clr, reduceIte, Int.reduceEq, Int.reduceLT, Int.reduceLE, Int.reduceAdd, Int.reduceSub, Int.reduceNeg, or_true, true_or, or_false, false_or, false_and, and_false, not_false_eq_true, not_true_eq_false, ne_eq, Nat.reduceDiv, Nat.reduceMod, Nat.reduceAdd, Nat.reduceMul, Nat.reduceBEq, Int.reduceToNat, Int.toNat_natCast, Nat.reduceEqDiff, Nat.reduceLT, Nat.reduceLeDiff, beq_self_eq_true, beq_iff_eq, true_and, and_true, Bool.false_eq_true, ite_self, Int.reduceTMod, Int.reduceTDiv, List.tail_cons, List.cons_append, List.nil_append, Nat.zero_add, show (k : Int) < 64 by omega, stoL_t, wr_s (show k < 1000000 by omega)]
    exact ih (k + 1) _ (by omega)
theorem e_fl {s w : Int64} : EvM TB (d + 1) 106 z v [.inr (.inr (.inl s)), .inr (.inr (.inl w))] Q = Q z v (.inr (.inr (.inl (fl s w 64)))) := by
  rw [e_ev]
  simp -implicitDefEqProofs only [lay_n, lay_i, lay_a, lay_l, x_nil, x_iconst, x_lconst, x_ldc, x_iload, x_aload, x_lload, x_istore, x_astore, x_lstore, x_iinc, x_iadd, x_isub, x_imul, x_idiv, x_irem, x_ineg, x_iand, x_ior, x_ixor, x_ishl, x_ishr, x_iushr, x_i2b, x_i2c, x_i2l, x_l2i, x_ladd, x_lsub, x_lmul, x_land, x_lor, x_lxor, x_ldiv, x_lrem, x_lneg, x_lshl, x_lushr, x_lcmp, x_max, x_min, x_abs, x_labs, x_lmax, x_dupI, x_dupA, x_dup2, x_popI, x_popA, x_goto, x_eq, x_ne, x_lt, x_ge, x_gt, x_le, x_ceq, x_cne, x_clt, x_cge, x_cgt, x_cle, x_sw, x_getI, x_getR, x_putI, x_putZ, x_putR, x_new, x_newI, x_newC, x_newL, x_anew, x_multi, x_alen, x_iald, x_cald, x_bald, x_lald, x_aald, x_iast, x_cast, x_last, x_aast, x_copy, x_obj, x_call, x_callL, x_iret, x_zret, x_cret, x_bret, x_lret, x_ret, ldI_i, ldA_a, ldL_l, nth_0, nth_s, sto_n0, sto_ns, sto_0, sto_i, sto_a, sto_l0, sto_ls, psh_t, psh_f, spl, splL, sh4, rcv, swK, stoL, clr, reduceIte, Int.reduceEq, Int.reduceLT, Int.reduceLE, Int.reduceAdd, Int.reduceSub, Int.reduceNeg, or_true, true_or, or_false, false_or, false_and, and_false, not_false_eq_true, not_true_eq_false, ne_eq, Nat.reduceDiv, Nat.reduceMod, Nat.reduceAdd, Nat.reduceMul, Nat.reduceBEq, Int.reduceToNat, Int.toNat_natCast, Nat.reduceEqDiff, Nat.reduceLT, Nat.reduceLeDiff, beq_self_eq_true, beq_iff_eq, true_and, and_true, Bool.false_eq_true, ite_self, Int.reduceTMod, Int.reduceTDiv, List.tail_cons, List.cons_append, List.nil_append, Nat.zero_add, g_106_0, g_106_59]
  exact e_flL 64 0 [] (by omega)
theorem e_oakL {a : Nat} {o : Nat → Bool} (ha : zh z a = 100) (ha2 : ((zl z a : Nat) : Int) = 64) (ho : ∀ c, c < 64 → v a c = if o c = true then 1 else 0) {what : Int} (hK : ∀ (x : Int64) (k : Int) (t : List xv), (∀ c, c < 64 → lbt x c = o c) → xGo (EvM TB d) (TB 104) Q 29 (.inr (.inl a) :: .inl what :: .inr (.inr (.inl x)) :: .inr (.inr (.inr ())) :: .inl k :: t) [] z v) : ∀ (m k : Nat) (x : Int64) (t : List xv), k + m = 64 → (∀ c, c < 64 → lbt x c = (decide (c < k) && o c)) →
    xGo (EvM TB d) (TB 104) Q 5 (.inr (.inl a) :: .inl what :: .inr (.inr (.inl x)) :: .inr (.inr (.inr ())) :: .inl k :: t) [] z v := by
  intro m
  induction m with
  | zero =>
    intro k x t hk hx
    obtain rfl : k = 64 := by omega
    rw [l_104_5]
    simp -implicitDefEqProofs only [lay_n, lay_i, lay_a, lay_l, x_nil, x_iconst, x_lconst, x_ldc, x_iload, x_aload, x_lload, x_istore, x_astore, x_lstore, x_iinc, x_iadd, x_isub, x_imul, x_idiv, x_irem, x_ineg, x_iand, x_ior, x_ixor, x_ishl, x_ishr, x_iushr, x_i2b, x_i2c, x_i2l, x_l2i, x_ladd, x_lsub, x_lmul, x_land, x_lor, x_lxor, x_ldiv, x_lrem, x_lneg, x_lshl, x_lushr, x_lcmp, x_max, x_min, x_abs, x_labs, x_lmax, x_dupI, x_dupA, x_dup2, x_popI, x_popA, x_goto, x_eq, x_ne, x_lt, x_ge, x_gt, x_le, x_ceq, x_cne, x_clt, x_cge, x_cgt, x_cle, x_sw, x_getI, x_getR, x_putI, x_putZ, x_putR, x_new, x_newI, x_newC, x_newL, x_anew, x_multi, x_alen, x_iald, x_cald, x_bald, x_lald, x_aald, x_iast, x_cast, x_last, x_aast, x_copy, x_obj, x_call, x_callL, x_iret, x_zret, x_cret, x_bret, x_lret, x_ret, ldI_i, ldA_a, ldL_l, nth_0, nth_s, sto_n0, sto_ns, sto_0, sto_i, sto_a, sto_l0, sto_ls, psh_t, psh_f, spl, splL, sh4, rcv, swK, stoL, clr, reduceIte, Int.reduceEq, Int.reduceLT, Int.reduceLE, Int.reduceAdd, Int.reduceSub, Int.reduceNeg, or_true, true_or, or_false, false_or, false_and, and_false, not_false_eq_true, not_true_eq_false, ne_eq, Nat.reduceDiv, Nat.reduceMod, Nat.reduceAdd, Nat.reduceMul, Nat.reduceBEq, Int.reduceToNat, Int.toNat_natCast, Nat.reduceEqDiff, Nat.reduceLT, Nat.reduceLeDiff, beq_self_eq_true, beq_iff_eq, true_and, and_true, Bool.false_eq_true, ite_self, Int.reduceTMod, Int.reduceTDiv, List.tail_cons, List.cons_append, List.nil_append, Nat.zero_add, show ¬ ((64 : Nat) : Int) < 64 by decide]
    exact hK x _ _ (fun c hc => by rw [hx c hc, decide_eq_true hc, Bool.true_and])
  | succ m ih =>
    intro k x t hk hx
    have hok := ho k (by omega)
    rw [l_104_5]
    simp -implicitDefEqProofs only [lay_n, lay_i, lay_a, lay_l, x_nil, x_iconst, x_lconst, x_ldc, x_iload, x_aload, x_lload, x_istore, x_astore, x_lstore, x_iinc, x_iadd, x_isub, x_imul, x_idiv, x_irem, x_ineg, x_iand, x_ior, x_ixor, x_ishl, x_ishr, x_iushr, x_i2b, x_i2c, x_i2l, x_l2i, x_ladd, x_lsub, x_lmul, x_land, x_lor, x_lxor, x_ldiv, x_lrem, x_lneg, x_lshl, x_lushr, x_lcmp, x_max, x_min, x_abs, x_labs, x_lmax, x_dupI, x_dupA, x_dup2, x_popI, x_popA, x_goto, x_eq, x_ne, x_lt, x_ge, x_gt, x_le, x_ceq, x_cne, x_clt, x_cge, x_cgt, x_cle, x_sw, x_getI, x_getR, x_putI, x_putZ, x_putR, x_new, x_newI, x_newC, x_newL, x_anew, x_multi, x_alen, x_iald, x_cald, x_bald, x_lald, x_aald, x_iast, x_cast, x_last, x_aast, x_copy, x_obj, x_call, x_callL, x_iret, x_zret, x_cret, x_bret, x_lret, x_ret, ldI_i, ldA_a, ldL_l, nth_0, nth_s, sto_n0, sto_ns, sto_0, sto_i, sto_a, sto_l0, sto_ls, psh_t, psh_f, spl, splL, sh4, rcv, swK, stoL, clr, reduceIte, Int.reduceEq, Int.reduceLT, Int.reduceLE, Int.reduceAdd, Int.reduceSub, Int.reduceNeg, or_true, true_or, or_false, false_or, false_and, and_false, not_false_eq_true, not_true_eq_false, ne_eq, Nat.reduceDiv, Nat.reduceMod, Nat.reduceAdd, Nat.reduceMul, Nat.reduceBEq, Int.reduceToNat, Int.toNat_natCast, Nat.reduceEqDiff, Nat.reduceLT, Nat.reduceLeDiff, beq_self_eq_true, beq_iff_eq, true_and, and_true, Bool.false_eq_true, ite_self, Int.reduceTMod, Int.reduceTDiv, List.tail_cons, List.cons_append, List.nil_append, Nat.zero_add, ha, ha2, show (k : Int) < 64 by omega, show (0 : Int) ≤ (k : Int) ∧ (k : Int) < 64 by omega, hok, wr_s (show k < 1000000 by omega)]
    refine ih (k + 1) _ t (by omega) (fun c hc => ?_)
    cases hb : o k with
    | true =>
      rw [if_pos rfl, show (Int32.ofInt 1).toInt64 = Int64.ofInt 1 from rfl, lbt_set (by omega) hc, hx c hc]
      by_cases e : c = k
      · rw [e, decide_eq_true rfl, decide_eq_true (show k < k + 1 by omega), hb, Bool.or_true]; rfl
      · rw [decide_eq_false e, Bool.or_false]
        congr 1
        exact decide_eq_decide.mpr (by omega)
    | false =>
      rw [if_neg (by decide), lbt_or, hx c hc]
      have e0 : lbt ((Int32.ofInt 0).toInt64 <<< ((Int32.ofInt (k : Int)).toInt64 &&& 63)) c = false := by
        show (0#64 <<< (((Int32.ofInt (k : Int)).toInt64 &&& 63).toBitVec.smod 64)).getLsbD c = false
        simp
      rw [e0, Bool.or_false]
      by_cases e : c = k
      · rw [e, hb, Bool.and_false, Bool.and_false]
      · congr 1
        exact decide_eq_decide.mpr (by omega)
end ST
