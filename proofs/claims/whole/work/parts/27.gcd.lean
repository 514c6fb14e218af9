/-! ===== longs, common parts ===== -/
theorem stoL_t (t : List xv) (x : xv) : stoL t 0 x = x :: .inr (.inr (.inr ())) :: t.tail.tail := by
  match t with
  | [] => rfl
  | [_] => rfl
  | _ :: _ :: _ => rfl
def big (x : Int) : Prop := -4611686018427387904 ≤ x ∧ x ≤ 4611686018427387904
theorem q_toInt {x : Int} (h : big x) : (Int64.ofInt x).toInt = x := Int64.toInt_ofInt_of_le (by have := h.1; omega) (by have := h.2; omega)
theorem q_inj {x y : Int} (hx : big x) (hy : big y) : Int64.ofInt x = Int64.ofInt y ↔ x = y := by
  rw [← Int64.toInt_inj, q_toInt hx, q_toInt hy]
theorem q_lt {x y : Int} (hx : big x) (hy : big y) : Int64.ofInt x < Int64.ofInt y ↔ x < y := by
  rw [Int64.lt_iff_toInt_lt, q_toInt hx, q_toInt hy]
theorem q_i2l {x : Int} (h1 : -2147483648 ≤ x) (h2 : x < 2147483648) : (Int32.ofInt x).toInt64 = Int64.ofInt x := by
  apply Int64.toInt_inj.mp
  rw [Int32.toInt_toInt64, toI_of ⟨h1, h2⟩, q_toInt ⟨by omega, by omega⟩]
theorem q_l2i {x : Int} (h1 : -2147483648 ≤ x) (h2 : x < 2147483648) : (Int64.ofInt x).toInt32.toInt = x := by
  rw [Int64.toInt32_ofInt, toI_of ⟨h1, h2⟩]
theorem q_cmp {x y : Int} (hx : big x) (hy : big y) : (lg_cmp (Int64.ofInt x) (Int64.ofInt y)).toInt = if y < x then 1 else if x = y then 0 else -1 := by
  unfold lg_cmp
  by_cases h1 : y < x
  · rw [if_pos ((q_lt hy hx).mpr h1), if_pos h1]; rfl
  · rw [if_neg (fun h => h1 ((q_lt hy hx).mp h)), if_neg h1]
    by_cases h2 : x = y
    · rw [if_pos ((q_inj hx hy).mpr h2), if_pos h2]; rfl
    · rw [if_neg (fun h => h2 ((q_inj hx hy).mp h)), if_neg h2]; rfl
theorem q_div {x y : Int} (hx : big x) (hy : big y) : Int64.ofInt x / Int64.ofInt y = Int64.ofInt (x.tdiv y) := by
  have e1 : Int64.minValue.toInt = -9223372036854775808 := by decide
  have e2 : Int64.maxValue.toInt = 9223372036854775807 := by decide
  unfold big at hx hy
  rw [Int64.ofInt_tdiv] <;> omega
theorem q_rem {x y : Int} (hx : big x) (hy : big y) : Int64.ofInt x - Int64.ofInt x / Int64.ofInt y * Int64.ofInt y = Int64.ofInt (x.tmod y) := by
  rw [q_div hx hy, ← Int64.ofInt_mul, ← Int64.ofInt_sub, Int.tmod_def, Int.mul_comm]
theorem q_abs {x : Int} (hx : big x) : (if 0 < Int64.ofInt x then Int64.ofInt x else -Int64.ofInt x) = Int64.ofInt x.natAbs := by
  have e : (0 : Int64) < Int64.ofInt x ↔ 0 < x := by
    rw [show (0 : Int64) = Int64.ofInt 0 from rfl]
    exact q_lt ⟨by decide, by decide⟩ hx
  by_cases h : 0 < x
  · rw [if_pos (e.mpr h)]
    congr 1
    omega
  · rw [if_neg (fun q => h (e.mp q)), ← Int64.ofInt_neg]
    congr 1
    omega
theorem q_max {x y : Int} (hx : big x) (hy : big y) : (if Int64.ofInt y < Int64.ofInt x then Int64.ofInt x else Int64.ofInt y) = Int64.ofInt (max x y) := by
  by_cases h : y < x
  · rw [if_pos ((q_lt hy hx).mpr h), show max x y = x by omega]
  · rw [if_neg (fun q => h ((q_lt hy hx).mp q)), show max x y = y by omega]
theorem q_ne0 {x : Int} (hx : big x) : (Int64.ofInt x = 0) ↔ x = 0 := by
  rw [show (0 : Int64) = Int64.ofInt 0 from rfl]
  exact q_inj hx ⟨by decide, by decide⟩
theorem big_nat {n : Nat} (h : n ≤ 1099511627776) : big (n : Int) := ⟨by omega, by omega⟩
theorem gcd_step (x y : Nat) : Nat.gcd y (x % y) = Nat.gcd x y := by
  rw [Nat.gcd_comm y, ← Nat.gcd_rec, Nat.gcd_comm]
theorem mod_half {y r : Nat} (h : 0 < r) (hr : r < y) : 2 * (y % r) < y := by
  have h1 := Nat.mod_lt y h
  have h2 := Nat.div_add_mod y r
  have h3 : 1 ≤ y / r := (Nat.one_le_div_iff h).mpr (Nat.le_of_lt hr)
  have h4 : r * 1 ≤ r * (y / r) := Nat.mul_le_mul_left r h3
  omega
section CP
variable {d : Nat} {z : xZ} {v : xV} {Q : xZ → xV → xv → Prop} {a b : Int64}
theorem e_cp0 {x i : Nat} (t : List xv) (hx : x ≤ 1099511627776) : xGo (EvM TB d) (TB 110) Q 15 (.inr (.inr (.inl a)) :: .inr (.inr (.inr ())) :: .inr (.inr (.inl b)) :: .inr (.inr (.inr ())) :: .inr (.inr (.inl (Int64.ofInt x))) :: .inr (.inr (.inr ())) :: .inr (.inr (.inl (Int64.ofInt ((0 : Nat) : Int)))) :: .inr (.inr (.inr ())) :: .inl i :: t) [] z v = Q z v (.inr (.inr (.inl (Int64.ofInt (max (x : Int) 1))))) := by
  rw [l_110_15]
  simp -implicitDefEqProofs only [lay_n, lay_i, lay_a, lay_l, x_nil, x_iconst, x_lconst, x_ldc, x_iload, x_aload, x_lload, x_istore, x_astore, x_lstore, x_iinc, x_iadd, x_isub, x_imul, x_idiv, x_irem, x_ineg, x_iand, x_ior, x_ixor, x_ishl, x_ishr, x_iushr, x_i2b, x_i2c, x_i2l, x_l2i, x_ladd, x_lsub, x_lmul, x_land, x_lor, x_lxor, x_ldiv, x_lrem, x_lneg, x_lshl, x_lushr, x_lcmp, x_max, x_min, x_abs, x_labs, x_lmax, x_dupI, x_dupA, x_dup2, x_popI, x_popA, x_goto, x_eq, x_ne, x_lt, x_ge, x_gt, x_le, x_ceq, x_cne, x_clt, x_cge, x_cgt, x_cle, x_sw, x_getI, x_getR, x_putI, x_putZ, x_putR, x_new, x_newI, x_newC, x_newL, x_anew, x_multi, x_alen, x_iald, x_cald, x_bald, x_lald, x_aald, x_iast, x_cast, x_last, x_aast, x_copy, x_obj, x_call, x_callL, x_iret, x_zret, x_cret, x_bret, x_lret, x_ret, ldI_i, ldA_a, ldL_l, nth_0, nth_s, sto_n0, sto_ns, sto_0, sto_i, sto_a, sto_l0, sto_ls, psh_t, psh_f, spl, splL, sh4, rcv, swK, stoL, clr, reduceIte, Int.reduceEq, Int.reduceLT, Int.reduceLE, Int.reduceAdd, Int.reduceSub, Int.reduceNeg, or_true, true_or, or_false, false_or, false_and, and_false, not_false_eq_true, not_true_eq_false, ne_eq, Nat.reduceDiv, Nat.reduceMod, Nat.reduceAdd, Nat.reduceMul, Nat.reduceBEq, Int.reduceToNat, Int.toNat_natCast, Nat.reduceEqDiff, Nat.reduceLT, Nat.reduceLeDiff, beq_self_eq_true, beq_iff_eq, true_and, and_true, Bool.false_eq_true, List.tail_cons, List.cons_append, List.nil_append, Nat.zero_add, g_110_0, g_110_51, q_cmp (big_nat (show 0 ≤ 1099511627776 by decide)) (show big 0 from ⟨by decide, by decide⟩), q_max (big_nat hx) (show big 1 from ⟨by decide, by decide⟩)]
  by_cases h : (i : Int) < 200 <;> simp -implicitDefEqProofs only [h, lay_n, lay_i, lay_a, lay_l, x_nil, x_iconst, x_lconst, x_ldc, x_iload, x_aload, x_lload, x_istore, x_astore, x_lstore, x_iinc, x_iadd, x_isub, x_imul, x_idiv, x_irem, x_ineg, x_iand, x_ior, x_ixor, x_ishl, x_ishr, x_iushr, x_i2b, x_i2c, x_i2l, x_l2i, x_ladd, x_lsub, x_lmul, x_land, x_lor, x_lxor, x_ldiv, x_lrem, x_lneg, x_lshl, x_lushr, x_lcmp, x_max, x_min, x_abs, x_labs, x_lmax, x_dupI, x_dupA, x_dup2, x_popI, x_popA, x_goto, x_eq, x_ne, x_lt, x_ge, x_gt, x_le, x_ceq, x_cne, x_clt, x_cge, x_cgt, x_cle, x_sw, x_getI, x_getR, x_putI, x_putZ, x_putR, x_new, x_newI, x_newC, x_newL, x_anew, x_multi, x_alen, x_iald, x_cald, x_bald, x_lald, x_aald, x_iast, x_cast, x_last, x_aast, x_copy, x_obj, x_call, x_callL, x_iret, x_zret, x_cret, x_bret, x_lret, x_ret, ldI_i, ldA_a, ldL_l, nth_0, nth_s, sto_n0, sto_ns, sto_0, sto_i, sto_a, sto_l0, sto_ls, psh_t, psh_f, spl, splL, sh4, rcv, swK, stoL, clr, reduceIte, Int.reduceEq, Int.reduceLT, Int.reduceLE, Int.reduceAdd, Int.reduceSub, Int.reduceNeg, or_true, true_or, or_false, false_or, false_and, and_false, not_false_eq_true, not_true_eq_false, ne_eq, Nat.reduceDiv, Nat.reduceMod, Nat.reduceAdd, Nat.reduceMul, Nat.reduceBEq, Int.reduceToNat, Int.toNat_natCast, Nat.reduceEqDiff, Nat.reduceLT, Nat.reduceLeDiff, beq_self_eq_true, beq_iff_eq, true_and, and_true, Bool.false_eq_true, List.tail_cons, List.cons_append, List.nil_append, Nat.zero_add, show ((0 : Nat) : Int) = 0 from rfl]
theorem e_cp1 {x y i : Nat} (t : List xv) (hx : x ≤ 1099511627776) (hy : y ≤ 1099511627776) (h0 : 0 < y) (hi : i < 200) : xGo (EvM TB d) (TB 110) Q 15 (.inr (.inr (.inl a)) :: .inr (.inr (.inr ())) :: .inr (.inr (.inl b)) :: .inr (.inr (.inr ())) :: .inr (.inr (.inl (Int64.ofInt x))) :: .inr (.inr (.inr ())) :: .inr (.inr (.inl (Int64.ofInt y))) :: .inr (.inr (.inr ())) :: .inl i :: t) [] z v = xGo (EvM TB d) (TB 110) Q 15 (.inr (.inr (.inl a)) :: .inr (.inr (.inr ())) :: .inr (.inr (.inl b)) :: .inr (.inr (.inr ())) :: .inr (.inr (.inl (Int64.ofInt y))) :: .inr (.inr (.inr ())) :: .inr (.inr (.inl (Int64.ofInt ((x % y : Nat) : Int)))) :: .inr (.inr (.inr ())) :: .inl ((i + 1 : Nat) : Int) :: .inr (.inr (.inl (Int64.ofInt ((x % y : Nat) : Int)))) :: .inr (.inr (.inr ())) :: t.tail.tail) [] z v := by
  rw [l_110_15]
  have e1 : Int64.ofInt x - Int64.ofInt x / Int64.ofInt y * Int64.ofInt y = Int64.ofInt ((x % y : Nat) : Int) := by
    rw [q_rem (big_nat hx) (big_nat hy)]
    rfl
  have e2 : wr ((i : Int) + 1) = ((i + 1 : Nat) : Int) := by rw [wr_id (by omega) (by omega)]; omega
  simp -implicitDefEqProofs only [lay_n, lay_i, lay_a, lay_l, x_nil, x_iconst, x_lconst, x_ldc, x_iload, x_aload, x_lload, x_istore, x_astore, x_lstore, x_iinc, x_iadd, x_isub, x_imul, x_idiv, x_irem, x_ineg, x_iand, x_ior, x_ixor, x_ishl, x_ishr, x_iushr, x_i2b, x_i2c, x_i2l, x_l2i, x_ladd, x_lsub, x_lmul, x_land, x_lor, x_lxor, x_ldiv, x_lrem, x_lneg, x_lshl, x_lushr, x_lcmp, x_max, x_min, x_abs, x_labs, x_lmax, x_dupI, x_dupA, x_dup2, x_popI, x_popA, x_goto, x_eq, x_ne, x_lt, x_ge, x_gt, x_le, x_ceq, x_cne, x_clt, x_cge, x_cgt, x_cle, x_sw, x_getI, x_getR, x_putI, x_putZ, x_putR, x_new, x_newI, x_newC, x_newL, x_anew, x_multi, x_alen, x_iald, x_cald, x_bald, x_lald, x_aald, x_iast, x_cast, x_last, x_aast, x_copy, x_obj, x_call, x_callL, x_iret, x_zret, x_cret, x_bret, x_lret, x_ret, ldI_i, ldA_a, ldL_l, nth_0, nth_s, sto_n0, sto_ns, sto_0, sto_i, sto_a, sto_l0, sto_ls, psh_t, psh_f, spl, splL, sh4, rcv, swK, stoL, clr, reduceIte, Int.reduceEq, Int.reduceLT, Int.reduceLE, Int.reduceAdd, Int.reduceSub, Int.reduceNeg, or_true, true_or, or_false, false_or, false_and, and_false, not_false_eq_true, not_true_eq_false, ne_eq, Nat.reduceDiv, Nat.reduceMod, Nat.reduceAdd, Nat.reduceMul, Nat.reduceBEq, Int.reduceToNat, Int.toNat_natCast, Nat.reduceEqDiff, Nat.reduceLT, Nat.reduceLeDiff, beq_self_eq_true, beq_iff_eq, true_and, and_true, Bool.false_eq_true, List.tail_cons, List.cons_append, List.nil_append, Nat.zero_add, g_110_0, g_110_51, stoL_t, q_cmp (big_nat hy) (show big 0 from ⟨by decide, by decide⟩), show (i : Int) < 200 by omega, show (0 : Int) < (y : Int) by omega, e1, e2, q_ne0 (big_nat hy), show ¬ (y : Int) = 0 by omega]
theorem e_cpL : ∀ (m x y i : Nat) (t : List xv), y < 2 ^ m → i + 2 * m ≤ 199 → x ≤ 1099511627776 → y ≤ 1099511627776 → xGo (EvM TB d) (TB 110) Q 15 (.inr (.inr (.inl a)) :: .inr (.inr (.inr ())) :: .inr (.inr (.inl b)) :: .inr (.inr (.inr ())) :: .inr (.inr (.inl (Int64.ofInt x))) :: .inr (.inr (.inr ())) :: .inr (.inr (.inl (Int64.ofInt y))) :: .inr (.inr (.inr ())) :: .inl i :: t) [] z v = Q z v (.inr (.inr (.inl (Int64.ofInt (max (Nat.gcd x y : Int) 1))))) := by
  intro m
  induction m with
  | zero =>
    intro x y i t h1 h2 h3 h4
    obtain rfl : y = 0 := by simpa using h1
    rw [e_cp0 t h3, Nat.gcd_zero_right]
  | succ m ih =>
    intro x y i t h1 h2 h3 h4
    by_cases h0 : y = 0
    · subst h0
      rw [e_cp0 t h3, Nat.gcd_zero_right]
    · have hr : x % y < y := Nat.mod_lt x (by omega)
      rw [e_cp1 t h3 h4 (by omega) (by omega), ← gcd_step x y]
      by_cases h5 : x % y = 0
      · rw [h5, e_cp0 _ h4, Nat.gcd_zero_right]
      · have hh := mod_half (show 0 < x % y by omega) hr
        rw [e_cp1 _ h4 (by omega) (by omega) (by omega), ← gcd_step y (x % y)]
        rw [Nat.pow_succ] at h1
        exact ih (x % y) (y % (x % y)) (i + 1 + 1) _ (by omega) (by omega) (by omega) (by omega)
end CP
theorem e_cp {d : Nat} {z : xZ} {v : xV} {Q : xZ → xV → xv → Prop} {x y : Int} (hx : x.natAbs ≤ 1099511627776) (hy : y.natAbs ≤ 1099511627776) : EvM TB (d + 1) 110 z v [.inr (.inr (.inl (Int64.ofInt x))), .inr (.inr (.inl (Int64.ofInt y)))] Q = Q z v (.inr (.inr (.inl (Int64.ofInt (max (Nat.gcd x.natAbs y.natAbs : Int) 1))))) := by
  rw [e_ev]
  simp -implicitDefEqProofs only [lay_n, lay_i, lay_a, lay_l, x_nil, x_iconst, x_lconst, x_ldc, x_iload, x_aload, x_lload, x_istore, x_astore, x_lstore, x_iinc, x_iadd, x_isub, x_imul, x_idiv, x_irem, x_ineg, x_iand, x_ior, x_ixor, x_ishl, x_ishr, x_iushr, x_i2b, x_i2c, x_i2l, x_l2i, x_ladd, x_lsub, x_lmul, x_land, x_lor, x_lxor, x_ldiv, x_lrem, x_lneg, x_lshl, x_lushr, x_lcmp, x_max, x_min, x_abs, x_labs, x_lmax, x_dupI, x_dupA, x_dup2, x_popI, x_popA, x_goto, x_eq, x_ne, x_lt, x_ge, x_gt, x_le, x_ceq, x_cne, x_clt, x_cge, x_cgt, x_cle, x_sw, x_getI, x_getR, x_putI, x_putZ, x_putR, x_new, x_newI, x_newC, x_newL, x_anew, x_multi, x_alen, x_iald, x_cald, x_bald, x_lald, x_aald, x_iast, x_cast, x_last, x_aast, x_copy, x_obj, x_call, x_callL, x_iret, x_zret, x_cret, x_bret, x_lret, x_ret, ldI_i, ldA_a, ldL_l, nth_0, nth_s, sto_n0, sto_ns, sto_0, sto_i, sto_a, sto_l0, sto_ls, psh_t, psh_f, spl, splL, sh4, rcv, swK, stoL, clr, reduceIte, Int.reduceEq, Int.reduceLT, Int.reduceLE, Int.reduceAdd, Int.reduceSub, Int.reduceNeg, or_true, true_or, or_false, false_or, false_and, and_false, not_false_eq_true, not_true_eq_false, ne_eq, Nat.reduceDiv, Nat.reduceMod, Nat.reduceAdd, Nat.reduceMul, Nat.reduceBEq, Int.reduceToNat, Int.toNat_natCast, Nat.reduceEqDiff, Nat.reduceLT, Nat.reduceLeDiff, beq_self_eq_true, beq_iff_eq, true_and, and_true, Bool.false_eq_true, List.tail_cons, List.cons_append, List.nil_append, Nat.zero_add, g_110_0, g_110_51, q_abs (show big x from ⟨by omega, by omega⟩), q_abs (show big y from ⟨by omega, by omega⟩)]
  exact e_cpL 41 x.natAbs y.natAbs 0 [] (by omega) (by decide) hx hy
theorem m_commonL {d : Nat} {z : xZ} {v : xV} {Q : xZ → xV → xv → Prop} (hz : Lay z) {a b : Int} : ∀ (f x y : Nat) (t : List xv), y ≤ f → x < 2147483648 → y < 2147483648 → xGo (EvM TB d) (TB 271) Q 13 (.inr (.inl 208) :: .inl a :: .inl b :: .inl x :: .inl y :: t) [] z v = Q z v (.inl (Nat.gcd x y : Int)) := by
  intro f
  induction f with
  | zero =>
    intro x y t h1 h2 h3
    obtain rfl : y = 0 := by omega
    rw [l_271_13]
    simp -implicitDefEqProofs only [lay_n, lay_i, lay_a, lay_l, x_nil, x_iconst, x_lconst, x_ldc, x_iload, x_aload, x_lload, x_istore, x_astore, x_lstore, x_iinc, x_iadd, x_isub, x_imul, x_idiv, x_irem, x_ineg, x_iand, x_ior, x_ixor, x_ishl, x_ishr, x_iushr, x_i2b, x_i2c, x_i2l, x_l2i, x_ladd, x_lsub, x_lmul, x_land, x_lor, x_lxor, x_ldiv, x_lrem, x_lneg, x_lshl, x_lushr, x_lcmp, x_max, x_min, x_abs, x_labs, x_lmax, x_dupI, x_dupA, x_dup2, x_popI, x_popA, x_goto, x_eq, x_ne, x_lt, x_ge, x_gt, x_le, x_ceq, x_cne, x_clt, x_cge, x_cgt, x_cle, x_sw, x_getI, x_getR, x_putI, x_putZ, x_putR, x_new, x_newI, x_newC, x_newL, x_anew, x_multi, x_alen, x_iald, x_cald, x_bald, x_lald, x_aald, x_iast, x_cast, x_last, x_aast, x_copy, x_obj, x_call, x_callL, x_iret, x_zret, x_cret, x_bret, x_lret, x_ret, ldI_i, ldA_a, ldL_l, nth_0, nth_s, sto_n0, sto_ns, sto_0, sto_i, sto_a, sto_l0, sto_ls, psh_t, psh_f, spl, splL, sh4, rcv, swK, stoL, clr, reduceIte, Int.reduceEq, Int.reduceLT, Int.reduceLE, Int.reduceAdd, Int.reduceSub, Int.reduceNeg, or_true, true_or, or_false, false_or, false_and, and_false, not_false_eq_true, not_true_eq_false, ne_eq, Nat.reduceDiv, Nat.reduceMod, Nat.reduceAdd, Nat.reduceMul, Nat.reduceBEq, Int.reduceToNat, Int.toNat_natCast, Nat.reduceEqDiff, Nat.reduceLT, Nat.reduceLeDiff, beq_self_eq_true, beq_iff_eq, true_and, and_true, Bool.false_eq_true, List.tail_cons, List.cons_append, List.nil_append, Nat.zero_add, g_271_0, g_271_34, show ((0 : Nat) : Int) = 0 from rfl, Nat.gcd_zero_right]
  | succ f ih =>
    intro x y t h1 h2 h3
    by_cases h0 : y = 0
    · subst h0
      rw [l_271_13]
      simp -implicitDefEqProofs only [lay_n, lay_i, lay_a, lay_l, x_nil, x_iconst, x_lconst, x_ldc, x_iload, x_aload, x_lload, x_istore, x_astore, x_lstore, x_iinc, x_iadd, x_isub, x_imul, x_idiv, x_irem, x_ineg, x_iand, x_ior, x_ixor, x_ishl, x_ishr, x_iushr, x_i2b, x_i2c, x_i2l, x_l2i, x_ladd, x_lsub, x_lmul, x_land, x_lor, x_lxor, x_ldiv, x_lrem, x_lneg, x_lshl, x_lushr, x_lcmp, x_max, x_min, x_abs, x_labs, x_lmax, x_dupI, x_dupA, x_dup2, x_popI, x_popA, x_goto, x_eq, x_ne, x_lt, x_ge, x_gt, x_le, x_ceq, x_cne, x_clt, x_cge, x_cgt, x_cle, x_sw, x_getI, x_getR, x_putI, x_putZ, x_putR, x_new, x_newI, x_newC, x_newL, x_anew, x_multi, x_alen, x_iald, x_cald, x_bald, x_lald, x_aald, x_iast, x_cast, x_last, x_aast, x_copy, x_obj, x_call, x_callL, x_iret, x_zret, x_cret, x_bret, x_lret, x_ret, ldI_i, ldA_a, ldL_l, nth_0, nth_s, sto_n0, sto_ns, sto_0, sto_i, sto_a, sto_l0, sto_ls, psh_t, psh_f, spl, splL, sh4, rcv, swK, stoL, clr, reduceIte, Int.reduceEq, Int.reduceLT, Int.reduceLE, Int.reduceAdd, Int.reduceSub, Int.reduceNeg, or_true, true_or, or_false, false_or, false_and, and_false, not_false_eq_true, not_true_eq_false, ne_eq, Nat.reduceDiv, Nat.reduceMod, Nat.reduceAdd, Nat.reduceMul, Nat.reduceBEq, Int.reduceToNat, Int.toNat_natCast, Nat.reduceEqDiff, Nat.reduceLT, Nat.reduceLeDiff, beq_self_eq_true, beq_iff_eq, true_and, and_true, Bool.false_eq_true, List.tail_cons, List.cons_append, List.nil_append, Nat.zero_add, g_271_0, g_271_34, show ((0 : Nat) : Int) = 0 from rfl, Nat.gcd_zero_right]
    · rw [l_271_13]
      simp -implicitDefEqProofs only [lay_n, lay_i, lay_a, lay_l, x_nil, x_iconst, x_lconst, x_ldc, x_iload, x_aload, x_lload, x_istore, x_astore, x_lstore, x_iinc, x_iadd, x_isub, x_imul, x_idiv, x_irem, x_ineg, x_iand, x_ior, x_ixor, x_ishl, x_ishr, x_iushr, x_i2b, x_i2c, x_i2l, x_l2i, x_ladd, x_lsub, x_lmul, x_land, x_lor, x_lxor, x_ldiv, x_lrem, x_lneg, x_lshl, x_lushr, x_lcmp, x_max, x_min, x_abs, x_labs, x_lmax, x_dupI, x_dupA, x_dup2, x_popI, x_popA, x_goto, x_eq, x_ne, x_lt, x_ge, x_gt, x_le, x_ceq, x_cne, x_clt, x_cge, x_cgt, x_cle, x_sw, x_getI, x_getR, x_putI, x_putZ, x_putR, x_new, x_newI, x_newC, x_newL, x_anew, x_multi, x_alen, x_iald, x_cald, x_bald, x_lald, x_aald, x_iast, x_cast, x_last, x_aast, x_copy, x_obj, x_call, x_callL, x_iret, x_zret, x_cret, x_bret, x_lret, x_ret, ldI_i, ldA_a, ldL_l, nth_0, nth_s, sto_n0, sto_ns, sto_0, sto_i, sto_a, sto_l0, sto_ls, psh_t, psh_f, spl, splL, sh4, rcv, swK, stoL, clr, reduceIte, Int.reduceEq, Int.reduceLT, Int.reduceLE, Int.reduceAdd, Int.reduceSub, Int.reduceNeg, or_true, true_or, or_false, false_or, false_and, and_false, not_false_eq_true, not_true_eq_false, ne_eq, Nat.reduceDiv, Nat.reduceMod, Nat.reduceAdd, Nat.reduceMul, Nat.reduceBEq, Int.reduceToNat, Int.toNat_natCast, Nat.reduceEqDiff, Nat.reduceLT, Nat.reduceLeDiff, beq_self_eq_true, beq_iff_eq, true_and, and_true, Bool.false_eq_true, List.tail_cons, List.cons_append, List.nil_append, Nat.zero_add, g_271_0, g_271_34, sto_t, show ¬ (y : Int) = 0 by omega]
      have hr : x % y < y := Nat.mod_lt x (by omega)
      rw [← gcd_step x y]
      exact ih y (x % y) _ (by omega) h3 (by omega)
theorem m_common {d : Nat} {z : xZ} {v : xV} {Q : xZ → xV → xv → Prop} (hz : Lay z) {a b : Int} (ha : a.natAbs < 2147483648) (hb : b.natAbs < 2147483648) : EvM TB (d + 2) 271 z v [.inr (.inl 208), .inl a, .inl b] Q = Q z v (.inl (Nat.gcd a.natAbs b.natAbs : Int)) := by
  rw [e_ev]
  simp -implicitDefEqProofs only [lay_n, lay_i, lay_a, lay_l, x_nil, x_iconst, x_lconst, x_ldc, x_iload, x_aload, x_lload, x_istore, x_astore, x_lstore, x_iinc, x_iadd, x_isub, x_imul, x_idiv, x_irem, x_ineg, x_iand, x_ior, x_ixor, x_ishl, x_ishr, x_iushr, x_i2b, x_i2c, x_i2l, x_l2i, x_ladd, x_lsub, x_lmul, x_land, x_lor, x_lxor, x_ldiv, x_lrem, x_lneg, x_lshl, x_lushr, x_lcmp, x_max, x_min, x_abs, x_labs, x_lmax, x_dupI, x_dupA, x_dup2, x_popI, x_popA, x_goto, x_eq, x_ne, x_lt, x_ge, x_gt, x_le, x_ceq, x_cne, x_clt, x_cge, x_cgt, x_cle, x_sw, x_getI, x_getR, x_putI, x_putZ, x_putR, x_new, x_newI, x_newC, x_newL, x_anew, x_multi, x_alen, x_iald, x_cald, x_bald, x_lald, x_aald, x_iast, x_cast, x_last, x_aast, x_copy, x_obj, x_call, x_callL, x_iret, x_zret, x_cret, x_bret, x_lret, x_ret, ldI_i, ldA_a, ldL_l, nth_0, nth_s, sto_n0, sto_ns, sto_0, sto_i, sto_a, sto_l0, sto_ls, psh_t, psh_f, spl, splL, sh4, rcv, swK, stoL, clr, reduceIte, Int.reduceEq, Int.reduceLT, Int.reduceLE, Int.reduceAdd, Int.reduceSub, Int.reduceNeg, or_true, true_or, or_false, false_or, false_and, and_false, not_false_eq_true, not_true_eq_false, ne_eq, Nat.reduceDiv, Nat.reduceMod, Nat.reduceAdd, Nat.reduceMul, Nat.reduceBEq, Int.reduceToNat, Int.toNat_natCast, Nat.reduceEqDiff, Nat.reduceLT, Nat.reduceLeDiff, beq_self_eq_true, beq_iff_eq, true_and, and_true, Bool.false_eq_true, List.tail_cons, List.cons_append, List.nil_append, Nat.zero_add, g_271_0, g_271_34, m_plain, hh_208 hz]
  have e : ∀ x : Int, x.natAbs < 2147483648 → (if x < 0 then wr (-x) else x) = ((x.natAbs : Nat) : Int) := by
    intro x hx
    by_cases h : x < 0
    · rw [if_pos h, wr_id (by omega) (by omega)]; omega
    · rw [if_neg h]; omega
  rw [e a ha, e b hb]
  exact m_commonL hz _ _ _ [] (Nat.le_refl _) ha hb

/-! ===== share ===== -/
theorem bl_shl_1_0 : b32 (fun x y => x <<< (y &&& 31)) 1 0 = 1 := by decide
theorem bl_shl_1_1 : b32 (fun x y => x <<< (y &&& 31)) 1 1 = 2 := by decide
theorem bl_shl_1_2 : b32 (fun x y => x <<< (y &&& 31)) 1 2 = 4 := by decide
theorem bl_shr_0_0 : b32 (fun x y => x >>> (y &&& 31)) 0 0 = 0 := by decide
theorem bl_shr_0_1 : b32 (fun x y => x >>> (y &&& 31)) 0 1 = 0 := by decide
theorem bl_shr_0_2 : b32 (fun x y => x >>> (y &&& 31)) 0 2 = 0 := by decide
theorem bl_shr_1_0 : b32 (fun x y => x >>> (y &&& 31)) 1 0 = 1 := by decide
theorem bl_shr_1_1 : b32 (fun x y => x >>> (y &&& 31)) 1 1 = 0 := by decide
theorem bl_shr_1_2 : b32 (fun x y => x >>> (y &&& 31)) 1 2 = 0 := by decide
theorem bl_shr_2_0 : b32 (fun x y => x >>> (y &&& 31)) 2 0 = 2 := by decide
theorem bl_shr_2_1 : b32 (fun x y => x >>> (y &&& 31)) 2 1 = 1 := by decide
theorem bl_shr_2_2 : b32 (fun x y => x >>> (y &&& 31)) 2 2 = 0 := by decide
theorem bl_shr_3_0 : b32 (fun x y => x >>> (y &&& 31)) 3 0 = 3 := by decide
theorem bl_shr_3_1 : b32 (fun x y => x >>> (y &&& 31)) 3 1 = 1 := by decide
theorem bl_shr_3_2 : b32 (fun x y => x >>> (y &&& 31)) 3 2 = 0 := by decide
theorem bl_shr_4_0 : b32 (fun x y => x >>> (y &&& 31)) 4 0 = 4 := by decide
theorem bl_shr_4_1 : b32 (fun x y => x >>> (y &&& 31)) 4 1 = 2 := by decide
theorem bl_shr_4_2 : b32 (fun x y => x >>> (y &&& 31)) 4 2 = 1 := by decide
theorem bl_shr_5_0 : b32 (fun x y => x >>> (y &&& 31)) 5 0 = 5 := by decide
theorem bl_shr_5_1 : b32 (fun x y => x >>> (y &&& 31)) 5 1 = 2 := by decide
theorem bl_shr_5_2 : b32 (fun x y => x >>> (y &&& 31)) 5 2 = 1 := by decide
theorem bl_shr_6_0 : b32 (fun x y => x >>> (y &&& 31)) 6 0 = 6 := by decide
theorem bl_shr_6_1 : b32 (fun x y => x >>> (y &&& 31)) 6 1 = 3 := by decide
theorem bl_shr_6_2 : b32 (fun x y => x >>> (y &&& 31)) 6 2 = 1 := by decide
theorem bl_shr_7_0 : b32 (fun x y => x >>> (y &&& 31)) 7 0 = 7 := by decide
theorem bl_shr_7_1 : b32 (fun x y => x >>> (y &&& 31)) 7 1 = 3 := by decide
theorem bl_shr_7_2 : b32 (fun x y => x >>> (y &&& 31)) 7 2 = 1 := by decide
theorem bl_or_0_0 : b32 (· ||| ·) 0 0 = 0 := by decide
theorem bl_or_0_1 : b32 (· ||| ·) 0 1 = 1 := by decide
theorem bl_or_0_2 : b32 (· ||| ·) 0 2 = 2 := by decide
theorem bl_or_0_3 : b32 (· ||| ·) 0 3 = 3 := by decide
theorem bl_or_0_4 : b32 (· ||| ·) 0 4 = 4 := by decide
theorem bl_or_0_5 : b32 (· ||| ·) 0 5 = 5 := by decide
theorem bl_or_0_6 : b32 (· ||| ·) 0 6 = 6 := by decide
theorem bl_or_0_7 : b32 (· ||| ·) 0 7 = 7 := by decide
theorem bl_or_1_0 : b32 (· ||| ·) 1 0 = 1 := by decide
theorem bl_or_1_1 : b32 (· ||| ·) 1 1 = 1 := by decide
theorem bl_or_1_2 : b32 (· ||| ·) 1 2 = 3 := by decide
theorem bl_or_1_3 : b32 (· ||| ·) 1 3 = 3 := by decide
theorem bl_or_1_4 : b32 (· ||| ·) 1 4 = 5 := by decide
theorem bl_or_1_5 : b32 (· ||| ·) 1 5 = 5 := by decide
theorem bl_or_1_6 : b32 (· ||| ·) 1 6 = 7 := by decide
theorem bl_or_1_7 : b32 (· ||| ·) 1 7 = 7 := by decide
theorem bl_or_2_0 : b32 (· ||| ·) 2 0 = 2 := by decide
theorem bl_or_2_1 : b32 (· ||| ·) 2 1 = 3 := by decide
theorem bl_or_2_2 : b32 (· ||| ·) 2 2 = 2 := by decide
theorem bl_or_2_3 : b32 (· ||| ·) 2 3 = 3 := by decide
theorem bl_or_2_4 : b32 (· ||| ·) 2 4 = 6 := by decide
theorem bl_or_2_5 : b32 (· ||| ·) 2 5 = 7 := by decide
theorem bl_or_2_6 : b32 (· ||| ·) 2 6 = 6 := by decide
theorem bl_or_2_7 : b32 (· ||| ·) 2 7 = 7 := by decide
theorem bl_or_3_0 : b32 (· ||| ·) 3 0 = 3 := by decide
theorem bl_or_3_1 : b32 (· ||| ·) 3 1 = 3 := by decide
theorem bl_or_3_2 : b32 (· ||| ·) 3 2 = 3 := by decide
theorem bl_or_3_3 : b32 (· ||| ·) 3 3 = 3 := by decide
theorem bl_or_3_4 : b32 (· ||| ·) 3 4 = 7 := by decide
theorem bl_or_3_5 : b32 (· ||| ·) 3 5 = 7 := by decide
theorem bl_or_3_6 : b32 (· ||| ·) 3 6 = 7 := by decide
theorem bl_or_3_7 : b32 (· ||| ·) 3 7 = 7 := by decide
theorem bl_or_4_0 : b32 (· ||| ·) 4 0 = 4 := by decide
theorem bl_or_4_1 : b32 (· ||| ·) 4 1 = 5 := by decide
theorem bl_or_4_2 : b32 (· ||| ·) 4 2 = 6 := by decide
theorem bl_or_4_3 : b32 (· ||| ·) 4 3 = 7 := by decide
theorem bl_or_4_4 : b32 (· ||| ·) 4 4 = 4 := by decide
theorem bl_or_4_5 : b32 (· ||| ·) 4 5 = 5 := by decide
theorem bl_or_4_6 : b32 (· ||| ·) 4 6 = 6 := by decide
theorem bl_or_4_7 : b32 (· ||| ·) 4 7 = 7 := by decide
theorem bl_or_5_0 : b32 (· ||| ·) 5 0 = 5 := by decide
theorem bl_or_5_1 : b32 (· ||| ·) 5 1 = 5 := by decide
theorem bl_or_5_2 : b32 (· ||| ·) 5 2 = 7 := by decide
theorem bl_or_5_3 : b32 (· ||| ·) 5 3 = 7 := by decide
theorem bl_or_5_4 : b32 (· ||| ·) 5 4 = 5 := by decide
theorem bl_or_5_5 : b32 (· ||| ·) 5 5 = 5 := by decide
theorem bl_or_5_6 : b32 (· ||| ·) 5 6 = 7 := by decide
theorem bl_or_5_7 : b32 (· ||| ·) 5 7 = 7 := by decide
theorem bl_or_6_0 : b32 (· ||| ·) 6 0 = 6 := by decide
theorem bl_or_6_1 : b32 (· ||| ·) 6 1 = 7 := by decide
theorem bl_or_6_2 : b32 (· ||| ·) 6 2 = 6 := by decide
theorem bl_or_6_3 : b32 (· ||| ·) 6 3 = 7 := by decide
theorem bl_or_6_4 : b32 (· ||| ·) 6 4 = 6 := by decide
theorem bl_or_6_5 : b32 (· ||| ·) 6 5 = 7 := by decide
theorem bl_or_6_6 : b32 (· ||| ·) 6 6 = 6 := by decide
theorem bl_or_6_7 : b32 (· ||| ·) 6 7 = 7 := by decide
theorem bl_or_7_0 : b32 (· ||| ·) 7 0 = 7 := by decide
theorem bl_or_7_1 : b32 (· ||| ·) 7 1 = 7 := by decide
theorem bl_or_7_2 : b32 (· ||| ·) 7 2 = 7 := by decide
theorem bl_or_7_3 : b32 (· ||| ·) 7 3 = 7 := by decide
theorem bl_or_7_4 : b32 (· ||| ·) 7 4 = 7 := by decide
theorem bl_or_7_5 : b32 (· ||| ·) 7 5 = 7 := by decide
theorem bl_or_7_6 : b32 (· ||| ·) 7 6 = 7 := by decide
theorem bl_or_7_7 : b32 (· ||| ·) 7 7 = 7 := by decide
theorem bl_and_0_0 : b32 (· &&& ·) 0 0 = 0 := by decide
theorem bl_and_0_1 : b32 (· &&& ·) 0 1 = 0 := by decide
theorem bl_and_0_2 : b32 (· &&& ·) 0 2 = 0 := by decide
theorem bl_and_0_3 : b32 (· &&& ·) 0 3 = 0 := by decide
theorem bl_and_0_4 : b32 (· &&& ·) 0 4 = 0 := by decide
theorem bl_and_0_5 : b32 (· &&& ·) 0 5 = 0 := by decide
theorem bl_and_0_6 : b32 (· &&& ·) 0 6 = 0 := by decide
theorem bl_and_0_7 : b32 (· &&& ·) 0 7 = 0 := by decide
theorem bl_and_1_0 : b32 (· &&& ·) 1 0 = 0 := by decide
theorem bl_and_1_1 : b32 (· &&& ·) 1 1 = 1 := by decide
theorem bl_and_1_2 : b32 (· &&& ·) 1 2 = 0 := by decide
theorem bl_and_1_3 : b32 (· &&& ·) 1 3 = 1 := by decide
theorem bl_and_1_4 : b32 (· &&& ·) 1 4 = 0 := by decide
theorem bl_and_1_5 : b32 (· &&& ·) 1 5 = 1 := by decide
theorem bl_and_1_6 : b32 (· &&& ·) 1 6 = 0 := by decide
theorem bl_and_1_7 : b32 (· &&& ·) 1 7 = 1 := by decide
theorem bl_and_2_0 : b32 (· &&& ·) 2 0 = 0 := by decide
theorem bl_and_2_1 : b32 (· &&& ·) 2 1 = 0 := by decide
theorem bl_and_2_2 : b32 (· &&& ·) 2 2 = 2 := by decide
theorem bl_and_2_3 : b32 (· &&& ·) 2 3 = 2 := by decide
theorem bl_and_2_4 : b32 (· &&& ·) 2 4 = 0 := by decide
theorem bl_and_2_5 : b32 (· &&& ·) 2 5 = 0 := by decide
theorem bl_and_2_6 : b32 (· &&& ·) 2 6 = 2 := by decide
theorem bl_and_2_7 : b32 (· &&& ·) 2 7 = 2 := by decide
theorem bl_and_3_0 : b32 (· &&& ·) 3 0 = 0 := by decide
theorem bl_and_3_1 : b32 (· &&& ·) 3 1 = 1 := by decide
theorem bl_and_3_2 : b32 (· &&& ·) 3 2 = 2 := by decide
theorem bl_and_3_3 : b32 (· &&& ·) 3 3 = 3 := by decide
theorem bl_and_3_4 : b32 (· &&& ·) 3 4 = 0 := by decide
theorem bl_and_3_5 : b32 (· &&& ·) 3 5 = 1 := by decide
theorem bl_and_3_6 : b32 (· &&& ·) 3 6 = 2 := by decide
theorem bl_and_3_7 : b32 (· &&& ·) 3 7 = 3 := by decide
theorem bl_and_4_0 : b32 (· &&& ·) 4 0 = 0 := by decide
theorem bl_and_4_1 : b32 (· &&& ·) 4 1 = 0 := by decide
theorem bl_and_4_2 : b32 (· &&& ·) 4 2 = 0 := by decide
theorem bl_and_4_3 : b32 (· &&& ·) 4 3 = 0 := by decide
theorem bl_and_4_4 : b32 (· &&& ·) 4 4 = 4 := by decide
theorem bl_and_4_5 : b32 (· &&& ·) 4 5 = 4 := by decide
theorem bl_and_4_6 : b32 (· &&& ·) 4 6 = 4 := by decide
theorem bl_and_4_7 : b32 (· &&& ·) 4 7 = 4 := by decide
theorem bl_and_5_0 : b32 (· &&& ·) 5 0 = 0 := by decide
theorem bl_and_5_1 : b32 (· &&& ·) 5 1 = 1 := by decide
theorem bl_and_5_2 : b32 (· &&& ·) 5 2 = 0 := by decide
theorem bl_and_5_3 : b32 (· &&& ·) 5 3 = 1 := by decide
theorem bl_and_5_4 : b32 (· &&& ·) 5 4 = 4 := by decide
theorem bl_and_5_5 : b32 (· &&& ·) 5 5 = 5 := by decide
theorem bl_and_5_6 : b32 (· &&& ·) 5 6 = 4 := by decide
theorem bl_and_5_7 : b32 (· &&& ·) 5 7 = 5 := by decide
theorem bl_and_6_0 : b32 (· &&& ·) 6 0 = 0 := by decide
theorem bl_and_6_1 : b32 (· &&& ·) 6 1 = 0 := by decide
theorem bl_and_6_2 : b32 (· &&& ·) 6 2 = 2 := by decide
theorem bl_and_6_3 : b32 (· &&& ·) 6 3 = 2 := by decide
theorem bl_and_6_4 : b32 (· &&& ·) 6 4 = 4 := by decide
theorem bl_and_6_5 : b32 (· &&& ·) 6 5 = 4 := by decide
theorem bl_and_6_6 : b32 (· &&& ·) 6 6 = 6 := by decide
theorem bl_and_6_7 : b32 (· &&& ·) 6 7 = 6 := by decide
theorem bl_and_7_0 : b32 (· &&& ·) 7 0 = 0 := by decide
theorem bl_and_7_1 : b32 (· &&& ·) 7 1 = 1 := by decide
theorem bl_and_7_2 : b32 (· &&& ·) 7 2 = 2 := by decide
theorem bl_and_7_3 : b32 (· &&& ·) 7 3 = 3 := by decide
theorem bl_and_7_4 : b32 (· &&& ·) 7 4 = 4 := by decide
theorem bl_and_7_5 : b32 (· &&& ·) 7 5 = 5 := by decide
theorem bl_and_7_6 : b32 (· &&& ·) 7 6 = 6 := by decide
theorem bl_and_7_7 : b32 (· &&& ·) 7 7 = 7 := by decide
