/-! ===== stands: model ===== -/
def nbB (c : Nat) : Nat → Bool
  | 0 => decide (8 ≤ c)
  | 1 => decide (c % 8 ≠ 7)
  | 2 => decide (c + 8 < 64)
  | _ => decide (c % 8 ≠ 0)
def nbI (c : Nat) : Nat → Nat
  | 0 => c - 8
  | 1 => c + 1
  | 2 => c + 8
  | _ => c - 1
theorem nbI_lt {c w : Nat} (hc : c < 64) (hw : w < 4) (h : nbB c w = true) : nbI c w < 64 ∧ nb c (nbI c w) := by
  rcases (by omega : w = 0 ∨ w = 1 ∨ w = 2 ∨ w = 3) with rfl | rfl | rfl | rfl <;> simp [nbB] at h <;> simp [nbI, nb] <;> omega
theorem nb_ex {a b : Nat} (ha : a < 64) (hb : b < 64) (h : nb a b) : ∃ w, w < 4 ∧ nbB a w = true ∧ b = nbI a w := by
  rcases h with h | h | h | h
  · exact ⟨2, by decide, by simp [nbB]; omega, by simp [nbI]; omega⟩
  · exact ⟨0, by decide, by simp [nbB]; omega, by simp [nbI]; omega⟩
  · exact ⟨1, by decide, by simp [nbB]; omega, by simp [nbI]; omega⟩
  · exact ⟨3, by decide, by simp [nbB]; omega, by simp [nbI]; omega⟩
def nbP (o : Nat → Bool) (c w : Nat) : Bool := nbB c w && o (nbI c w)
theorem nbP_iff {o : Nat → Bool} {c w : Nat} : nbP o c w = true ↔ nbB c w = true ∧ o (nbI c w) = true := by
  unfold nbP
  rw [Bool.and_eq_true]
def dxW (w : Nat) : Int := if (w : Int) = 1 then 1 else if (w : Int) = 3 then -1 else 0
def dyW (w : Nat) : Int := if (w : Int) = 2 then 1 else if (w : Int) = 0 then -1 else 0
section SV
variable {d : Nat} {z : xZ} {v : xV} {Q : xZ → xV → xv → Prop} {o : Nat → Bool}
theorem m_isOak (hz : Lay z) (ho : ∀ c, c < 64 → v 209 (5 + c) = if o c = true then 1 else 0) {x y : Int} : EvM TB (d + 3) 266 z v [.inr (.inl 208), .inl x, .inl y] Q = Q z v (.inl (if ((0 ≤ x ∧ x ≤ 7) ∧ (0 ≤ y ∧ y ≤ 7)) ∧ o (8 * y + x).toNat = true then 1 else 0)) := by
  rw [e_ev]
  simp -implicitDefEqProofs only [lay_n, lay_i, lay_a, lay_l, x_nil, x_iconst, x_lconst, x_ldc, x_iload, x_aload, x_lload, x_istore, x_astore, x_lstore, x_iinc, x_iadd, x_isub, x_imul, x_idiv, x_irem, x_ineg, x_iand, x_ior, x_ixor, x_ishl, x_ishr, x_iushr, x_i2b, x_i2c, x_i2l, x_l2i, x_ladd, x_lsub, x_lmul, x_land, x_lor, x_lxor, x_ldiv, x_lrem, x_lneg, x_lshl, x_lushr, x_lcmp, x_max, x_min, x_abs, x_labs, x_lmax, x_dupI, x_dupA, x_dup2, x_popI, x_popA, x_goto, x_eq, x_ne, x_lt, x_ge, x_gt, x_le, x_ceq, x_cne, x_clt, x_cge, x_cgt, x_cle, x_sw, x_getI, x_getR, x_putI, x_putZ, x_putR, x_new, x_newI, x_newC, x_newL, x_anew, x_multi, x_alen, x_iald, x_cald, x_bald, x_lald, x_aald, x_iast, x_cast, x_last, x_aast, x_copy, x_obj, x_call, x_callL, x_iret, x_zret, x_cret, x_bret, x_lret, x_ret, ldI_i, ldA_a, ldL_l, nth_0, nth_s, sto_n0, sto_ns, sto_0, sto_i, sto_a, sto_l0, sto_ls, psh_t, psh_f, spl, splL, sh4, rcv, swK, stoL, clr, reduceIte, Int.reduceEq, Int.reduceLT, Int.reduceLE, Int.reduceAdd, Int.reduceSub, Int.reduceNeg, or_true, true_or, or_false, false_or, false_and, and_false, not_false_eq_true, not_true_eq_false, ne_eq, Nat.reduceDiv, Nat.reduceMod, Nat.reduceAdd, Nat.reduceMul, Nat.reduceBEq, Int.reduceToNat, Int.toNat_natCast, Nat.reduceEqDiff, Nat.reduceLT, Nat.reduceLeDiff, beq_self_eq_true, beq_iff_eq, true_and, and_true, Bool.false_eq_true, ite_self, Int.reduceTMod, Int.reduceTDiv, List.tail_cons, List.cons_append, List.nil_append, Nat.zero_add, g_266_0, g_266_30, g_266_31, m_isCell (hh_208 hz), hh_208 hz, if_01]
  by_cases h : (0 ≤ x ∧ x ≤ 7) ∧ (0 ≤ y ∧ y ≤ 7)
  · have hoc := ho (8 * y + x).toNat (by omega)
    have e1 : wr (wr (5 + wr (8 * y)) + x) = ((5 + (8 * y + x).toNat : Nat) : Int) := by
      rw [wr_p (k := 8 * y) (by omega) (by omega), wr_p (k := 5 + 8 * y) (by omega) (by omega), wr_p (by omega) (by omega)]
      omega
    have f1 : (0 : Int) ≤ ((5 + (8 * y + x).toNat : Nat) : Int) ∧ ((5 + (8 * y + x).toNat : Nat) : Int) < 247 := by clear e1; omega
    by_cases c : o (8 * y + x).toNat = true
    · rw [if_pos c] at hoc
      simp -implicitDefEqProofs only [h, c, and_self, lay_n, lay_i, lay_a, lay_l, x_nil, x_iconst, x_lconst, x_ldc, x_iload, x_aload, x_lload, x_istore, x_astore, x_lstore, x_iinc, x_iadd, x_isub, x_imul, x_idiv, x_irem, x_ineg, x_iand, x_ior, x_ixor, x_ishl, x_ishr, x_iushr, x_i2b, x_i2c, x_i2l, x_l2i, x_ladd, x_lsub, x_lmul, x_land, x_lor, x_lxor, x_ldiv, x_lrem, x_lneg, x_lshl, x_lushr, x_lcmp, x_max, x_min, x_abs, x_labs, x_lmax, x_dupI, x_dupA, x_dup2, x_popI, x_popA, x_goto, x_eq, x_ne, x_lt, x_ge, x_gt, x_le, x_ceq, x_cne, x_clt, x_cge, x_cgt, x_cle, x_sw, x_getI, x_getR, x_putI, x_putZ, x_putR, x_new, x_newI, x_newC, x_newL, x_anew, x_multi, x_alen, x_iald, x_cald, x_bald, x_lald, x_aald, x_iast, x_cast, x_last, x_aast, x_copy, x_obj, x_call, x_callL, x_iret, x_zret, x_cret, x_bret, x_lret, x_ret, ldI_i, ldA_a, ldL_l, nth_0, nth_s, sto_n0, sto_ns, sto_0, sto_i, sto_a, sto_l0, sto_ls, psh_t, psh_f, spl, splL, sh4, rcv, swK, stoL, clr, reduceIte, Int.reduceEq, Int.reduceLT, Int.reduceLE, Int.reduceAdd, Int.reduceSub, Int.reduceNeg, or_true, true_or, or_false, false_or, false_and, and_false, not_false_eq_true, not_true_eq_false, ne_eq, Nat.reduceDiv, Nat.reduceMod, Nat.reduceAdd, Nat.reduceMul, Nat.reduceBEq, Int.reduceToNat, Int.toNat_natCast, Nat.reduceEqDiff, Nat.reduceLT, Nat.reduceLeDiff, beq_self_eq_true, beq_iff_eq, true_and, and_true, Bool.false_eq_true, ite_self, Int.reduceTMod, Int.reduceTDiv, List.tail_cons, List.cons_append, List.nil_append, Nat.zero_add, g_266_0, g_266_30, g_266_31, hh_208 hz, hr_208_1 hz, hr_208_2 hz, hr_208_4 hz, hr_208_7 hz, hr_208_8 hz, hr_208_9 hz, hr_208_15 hz, hr_208_16 hz, hr_208_17 hz, hr_208_18 hz, hr_208_19 hz, hr_208_20 hz, hr_208_21 hz, hr_208_22 hz, hr_208_26 hz, hr_208_33 hz, hr_208_35 hz, hr_208_36 hz, hr_208_38 hz, hr_208_39 hz, hr_208_40 hz, hr_208_41 hz, hr_208_42 hz, hr_208_43 hz, hr_208_44 hz, hr_208_45 hz, hr_208_47 hz, hr_208_48 hz, hr_208_49 hz, hr_208_50 hz, hr_208_51 hz, hr_208_52 hz, hr_208_53 hz, hr_208_55 hz, hr_208_57 hz, hr_208_58 hz, hr_208_60 hz, hr_208_62 hz, hr_208_63 hz, hr_208_64 hz, hr_208_68 hz, hh_209 hz, hc_209 hz, hh_210 hz, hc_210 hz, hh_211 hz, hc_211 hz, hh_212 hz, hc_212 hz, hh_213 hz, hc_213 hz, hh_214 hz, hc_214 hz, hh_215 hz, hc_215 hz, hh_216 hz, hc_216 hz, hh_217 hz, hc_217 hz, hh_218 hz, hc_218 hz, hh_219 hz, hc_219 hz, hh_220 hz, hc_220 hz, hh_221 hz, hc_221 hz, hh_222 hz, hc_222 hz, hh_223 hz, hc_223 hz, hh_224 hz, hc_224 hz, hh_225 hz, hc_225 hz, hh_226 hz, hc_226 hz, hh_227 hz, hc_227 hz, hh_228 hz, hc_228 hz, hh_229 hz, hc_229 hz, hh_230 hz, hc_230 hz, hh_231 hz, hc_231 hz, hh_232 hz, hc_232 hz, hh_233 hz, hc_233 hz, hh_234 hz, hc_234 hz, hh_235 hz, hc_235 hz, hh_236 hz, hc_236 hz, hh_237 hz, hc_237 hz, hh_238 hz, hc_238 hz, hh_239 hz, hc_239 hz, hh_240 hz, hc_240 hz, hh_241 hz, hc_241 hz, hh_242 hz, hc_242 hz, hh_243 hz, hc_243 hz, hh_244 hz, hc_244 hz, hh_245 hz, hc_245 hz, hh_246 hz, hc_246 hz, hh_247 hz, hc_247 hz, hh_248 hz, hc_248 hz, hh_249 hz, hc_249 hz, e1, f1, hoc]
    · rw [if_neg c] at hoc
      simp -implicitDefEqProofs only [h, c, and_self, lay_n, lay_i, lay_a, lay_l, x_nil, x_iconst, x_lconst, x_ldc, x_iload, x_aload, x_lload, x_istore, x_astore, x_lstore, x_iinc, x_iadd, x_isub, x_imul, x_idiv, x_irem, x_ineg, x_iand, x_ior, x_ixor, x_ishl, x_ishr, x_iushr, x_i2b, x_i2c, x_i2l, x_l2i, x_ladd, x_lsub, x_lmul, x_land, x_lor, x_lxor, x_ldiv, x_lrem, x_lneg, x_lshl, x_lushr, x_lcmp, x_max, x_min, x_abs, x_labs, x_lmax, x_dupI, x_dupA, x_dup2, x_popI, x_popA, x_goto, x_eq, x_ne, x_lt, x_ge, x_gt, x_le, x_ceq, x_cne, x_clt, x_cge, x_cgt, x_cle, x_sw, x_getI, x_getR, x_putI, x_putZ, x_putR, x_new, x_newI, x_newC, x_newL, x_anew, x_multi, x_alen, x_iald, x_cald, x_bald, x_lald, x_aald, x_iast, x_cast, x_last, x_aast, x_copy, x_obj, x_call, x_callL, x_iret, x_zret, x_cret, x_bret, x_lret, x_ret, ldI_i, ldA_a, ldL_l, nth_0, nth_s, sto_n0, sto_ns, sto_0, sto_i, sto_a, sto_l0, sto_ls, psh_t, psh_f, spl, splL, sh4, rcv, swK, stoL, clr, reduceIte, Int.reduceEq, Int.reduceLT, Int.reduceLE, Int.reduceAdd, Int.reduceSub, Int.reduceNeg, or_true, true_or, or_false, false_or, false_and, and_false, not_false_eq_true, not_true_eq_false, ne_eq, Nat.reduceDiv, Nat.reduceMod, Nat.reduceAdd, Nat.reduceMul, Nat.reduceBEq, Int.reduceToNat, Int.toNat_natCast, Nat.reduceEqDiff, Nat.reduceLT, Nat.reduceLeDiff, beq_self_eq_true, beq_iff_eq, true_and, and_true, Bool.false_eq_true, ite_self, Int.reduceTMod, Int.reduceTDiv, List.tail_cons, List.cons_append, List.nil_append, Nat.zero_add, g_266_0, g_266_30, g_266_31, hh_208 hz, hr_208_1 hz, hr_208_2 hz, hr_208_4 hz, hr_208_7 hz, hr_208_8 hz, hr_208_9 hz, hr_208_15 hz, hr_208_16 hz, hr_208_17 hz, hr_208_18 hz, hr_208_19 hz, hr_208_20 hz, hr_208_21 hz, hr_208_22 hz, hr_208_26 hz, hr_208_33 hz, hr_208_35 hz, hr_208_36 hz, hr_208_38 hz, hr_208_39 hz, hr_208_40 hz, hr_208_41 hz, hr_208_42 hz, hr_208_43 hz, hr_208_44 hz, hr_208_45 hz, hr_208_47 hz, hr_208_48 hz, hr_208_49 hz, hr_208_50 hz, hr_208_51 hz, hr_208_52 hz, hr_208_53 hz, hr_208_55 hz, hr_208_57 hz, hr_208_58 hz, hr_208_60 hz, hr_208_62 hz, hr_208_63 hz, hr_208_64 hz, hr_208_68 hz, hh_209 hz, hc_209 hz, hh_210 hz, hc_210 hz, hh_211 hz, hc_211 hz, hh_212 hz, hc_212 hz, hh_213 hz, hc_213 hz, hh_214 hz, hc_214 hz, hh_215 hz, hc_215 hz, hh_216 hz, hc_216 hz, hh_217 hz, hc_217 hz, hh_218 hz, hc_218 hz, hh_219 hz, hc_219 hz, hh_220 hz, hc_220 hz, hh_221 hz, hc_221 hz, hh_222 hz, hc_222 hz, hh_223 hz, hc_223 hz, hh_224 hz, hc_224 hz, hh_225 hz, hc_225 hz, hh_226 hz, hc_226 hz, hh_227 hz, hc_227 hz, hh_228 hz, hc_228 hz, hh_229 hz, hc_229 hz, hh_230 hz, hc_230 hz, hh_231 hz, hc_231 hz, hh_232 hz, hc_232 hz, hh_233 hz, hc_233 hz, hh_234 hz, hc_234 hz, hh_235 hz, hc_235 hz, hh_236 hz, hc_236 hz, hh_237 hz, hc_237 hz, hh_238 hz, hc_238 hz, hh_239 hz, hc_239 hz, hh_240 hz, hc_240 hz, hh_241 hz, hc_241 hz, hh_242 hz, hc_242 hz, hh_243 hz, hc_243 hz, hh_244 hz, hc_244 hz, hh_245 hz, hc_245 hz, hh_246 hz, hc_246 hz, hh_247 hz, hc_247 hz, hh_248 hz, hc_248 hz, hh_249 hz, hc_249 hz, e1, f1, hoc]
  · simp -implicitDefEqProofs only [h, lay_n, lay_i, lay_a, lay_l, x_nil, x_iconst, x_lconst, x_ldc, x_iload, x_aload, x_lload, x_istore, x_astore, x_lstore, x_iinc, x_iadd, x_isub, x_imul, x_idiv, x_irem, x_ineg, x_iand, x_ior, x_ixor, x_ishl, x_ishr, x_iushr, x_i2b, x_i2c, x_i2l, x_l2i, x_ladd, x_lsub, x_lmul, x_land, x_lor, x_lxor, x_ldiv, x_lrem, x_lneg, x_lshl, x_lushr, x_lcmp, x_max, x_min, x_abs, x_labs, x_lmax, x_dupI, x_dupA, x_dup2, x_popI, x_popA, x_goto, x_eq, x_ne, x_lt, x_ge, x_gt, x_le, x_ceq, x_cne, x_clt, x_cge, x_cgt, x_cle, x_sw, x_getI, x_getR, x_putI, x_putZ, x_putR, x_new, x_newI, x_newC, x_newL, x_anew, x_multi, x_alen, x_iald, x_cald, x_bald, x_lald, x_aald, x_iast, x_cast, x_last, x_aast, x_copy, x_obj, x_call, x_callL, x_iret, x_zret, x_cret, x_bret, x_lret, x_ret, ldI_i, ldA_a, ldL_l, nth_0, nth_s, sto_n0, sto_ns, sto_0, sto_i, sto_a, sto_l0, sto_ls, psh_t, psh_f, spl, splL, sh4, rcv, swK, stoL, clr, reduceIte, Int.reduceEq, Int.reduceLT, Int.reduceLE, Int.reduceAdd, Int.reduceSub, Int.reduceNeg, or_true, true_or, or_false, false_or, false_and, and_false, not_false_eq_true, not_true_eq_false, ne_eq, Nat.reduceDiv, Nat.reduceMod, Nat.reduceAdd, Nat.reduceMul, Nat.reduceBEq, Int.reduceToNat, Int.toNat_natCast, Nat.reduceEqDiff, Nat.reduceLT, Nat.reduceLeDiff, beq_self_eq_true, beq_iff_eq, true_and, and_true, Bool.false_eq_true, ite_self, Int.reduceTMod, Int.reduceTDiv, List.tail_cons, List.cons_append, List.nil_append, Nat.zero_add]
theorem m_nbO (hz : Lay z) (ho : ∀ c, c < 64 → v 209 (5 + c) = if o c = true then 1 else 0) {c w : Nat} (hc : c < 64) (hw : w < 4) : EvM TB (d + 3) 266 z v [.inr (.inl 208), .inl (wr (((c % 8 : Nat) : Int) + dxW w)), .inl (wr (((c / 8 : Nat) : Int) + dyW w))] Q = Q z v (.inl (if nbP o c w = true then 1 else 0)) ∧ (nbB c w = true → wr (wr (8 * wr (((c / 8 : Nat) : Int) + dyW w)) + wr (((c % 8 : Nat) : Int) + dxW w)) = (nbI c w : Int)) := by
  rw [m_isOak hz ho]
  rcases (by omega : w = 0 ∨ w = 1 ∨ w = 2 ∨ w = 3) with rfl | rfl | rfl | rfl
  · rw [show dxW 0 = 0 from rfl, show dyW 0 = -1 from rfl, wr_p (k := ((c % 8 : Nat) : Int) + 0) (by omega) (by omega), wr_p (k := ((c / 8 : Nat) : Int) + -1) (by omega) (by omega)]
    constructor
    · by_cases h : 8 ≤ c
      · rw [show (8 * (((c / 8 : Nat) : Int) + -1) + (((c % 8 : Nat) : Int) + 0)).toNat = nbI c 0 by show _ = c - 8; omega]
        have e : nbP o c 0 = o (nbI c 0) := by unfold nbP; rw [show nbB c 0 = true from decide_eq_true h, Bool.true_and]
        rw [e]
        by_cases q : o (nbI c 0) = true
        · rw [if_pos q, if_pos ⟨by omega, q⟩]
        · rw [if_neg q, if_neg (fun k => q k.2)]
      · have e : nbP o c 0 = false := by unfold nbP; rw [show nbB c 0 = false from decide_eq_false h, Bool.false_and]
        rw [e, if_neg (fun k => by omega), if_neg (by decide)]
    · intro h
      have h' : 8 ≤ c := of_decide_eq_true h
      rw [wr_p (k := 8 * (((c / 8 : Nat) : Int) + -1)) (by omega) (by omega), wr_p (by omega) (by omega)]
      show _ = ((c - 8 : Nat) : Int)
      omega
  · rw [show dxW 1 = 1 from rfl, show dyW 1 = 0 from rfl, wr_p (k := ((c % 8 : Nat) : Int) + 1) (by omega) (by omega), wr_p (k := ((c / 8 : Nat) : Int) + 0) (by omega) (by omega)]
    constructor
    · by_cases h : c % 8 ≠ 7
      · rw [show (8 * (((c / 8 : Nat) : Int) + 0) + (((c % 8 : Nat) : Int) + 1)).toNat = nbI c 1 by show _ = c + 1; omega]
        have e : nbP o c 1 = o (nbI c 1) := by unfold nbP; rw [show nbB c 1 = true from decide_eq_true h, Bool.true_and]
        rw [e]
        by_cases q : o (nbI c 1) = true
        · rw [if_pos q, if_pos ⟨by omega, q⟩]
        · rw [if_neg q, if_neg (fun k => q k.2)]
      · have e : nbP o c 1 = false := by unfold nbP; rw [show nbB c 1 = false from decide_eq_false h, Bool.false_and]
        rw [e, if_neg (fun k => by omega), if_neg (by decide)]
    · intro h
      have h' : c % 8 ≠ 7 := of_decide_eq_true h
      rw [wr_p (k := 8 * (((c / 8 : Nat) : Int) + 0)) (by omega) (by omega), wr_p (by omega) (by omega)]
      show _ = ((c + 1 : Nat) : Int)
      omega
  · rw [show dxW 2 = 0 from rfl, show dyW 2 = 1 from rfl, wr_p (k := ((c % 8 : Nat) : Int) + 0) (by omega) (by omega), wr_p (k := ((c / 8 : Nat) : Int) + 1) (by omega) (by omega)]
    constructor
    · by_cases h : c + 8 < 64
      · rw [show (8 * (((c / 8 : Nat) : Int) + 1) + (((c % 8 : Nat) : Int) + 0)).toNat = nbI c 2 by show _ = c + 8; omega]
        have e : nbP o c 2 = o (nbI c 2) := by unfold nbP; rw [show nbB c 2 = true from decide_eq_true h, Bool.true_and]
        rw [e]
        by_cases q : o (nbI c 2) = true
        · rw [if_pos q, if_pos ⟨by omega, q⟩]
        · rw [if_neg q, if_neg (fun k => q k.2)]
      · have e : nbP o c 2 = false := by unfold nbP; rw [show nbB c 2 = false from decide_eq_false h, Bool.false_and]
        rw [e, if_neg (fun k => by omega), if_neg (by decide)]
    · intro h
      have h' : c + 8 < 64 := of_decide_eq_true h
      rw [wr_p (k := 8 * (((c / 8 : Nat) : Int) + 1)) (by omega) (by omega), wr_p (by omega) (by omega)]
      show _ = ((c + 8 : Nat) : Int)
      omega
  · rw [show dxW 3 = -1 from rfl, show dyW 3 = 0 from rfl, wr_p (k := ((c % 8 : Nat) : Int) + -1) (by omega) (by omega), wr_p (k := ((c / 8 : Nat) : Int) + 0) (by omega) (by omega)]
    constructor
    · by_cases h : c % 8 ≠ 0
      · rw [show (8 * (((c / 8 : Nat) : Int) + 0) + (((c % 8 : Nat) : Int) + -1)).toNat = nbI c 3 by show _ = c - 1; omega]
        have e : nbP o c 3 = o (nbI c 3) := by unfold nbP; rw [show nbB c 3 = true from decide_eq_true h, Bool.true_and]
        rw [e]
        by_cases q : o (nbI c 3) = true
        · rw [if_pos q, if_pos ⟨by omega, q⟩]
        · rw [if_neg q, if_neg (fun k => q k.2)]
      · have e : nbP o c 3 = false := by unfold nbP; rw [show nbB c 3 = false from decide_eq_false h, Bool.false_and]
        rw [e, if_neg (fun k => by omega), if_neg (by decide)]
    · intro h
      have h' : c % 8 ≠ 0 := of_decide_eq_true h
      rw [wr_p (k := 8 * (((c / 8 : Nat) : Int) + 0)) (by omega) (by omega), wr_p (by omega) (by omega)]
      show _ = ((c - 1 : Nat) : Int)
      omega
/-- open sides -/
def opW (o : Nat → Bool) (c : Nat) : Nat → Nat := cnt (fun w => o c = true ∧ ¬ nbP o c w = true)
def opT (o : Nat → Bool) : Nat → Nat
  | 0 => 0
  | c + 1 => opT o c + opW o c 4
theorem opT_le (o : Nat → Bool) : ∀ c, opT o c ≤ 4 * c
  | 0 => Nat.le_refl _
  | c + 1 => by
    have h1 := opT_le o c
    have h2 : opW o c 4 ≤ 4 := cnt_le _ 4
    show opT o c + opW o c 4 ≤ _
    omega
def dirC (o : Nat → Bool) (w : Nat) : Nat → Nat := cnt (fun c => o c = true ∧ nbP o c w = true)
theorem opT_dir (o : Nat → Bool) : ∀ n, opT o n + (dirC o 0 n + dirC o 1 n + dirC o 2 n + dirC o 3 n) = 4 * cnt (fun c => o c = true) n
  | 0 => rfl
  | n + 1 => by
    have ih := opT_dir o n
    show opT o n + opW o n 4 + ((dirC o 0 n + if o n = true ∧ nbP o n 0 = true then 1 else 0) + (dirC o 1 n + if o n = true ∧ nbP o n 1 = true then 1 else 0) + (dirC o 2 n + if o n = true ∧ nbP o n 2 = true then 1 else 0) + (dirC o 3 n + if o n = true ∧ nbP o n 3 = true then 1 else 0)) = 4 * (cnt (fun c => o c = true) n + if o n = true then 1 else 0)
    have e : opW o n 4 = 0 + (if o n = true ∧ ¬ nbP o n 0 = true then 1 else 0) + (if o n = true ∧ ¬ nbP o n 1 = true then 1 else 0) + (if o n = true ∧ ¬ nbP o n 2 = true then 1 else 0) + (if o n = true ∧ ¬ nbP o n 3 = true then 1 else 0) := rfl
    rw [e]
    cases o n <;> cases nbP o n 0 <;> cases nbP o n 1 <;> cases nbP o n 2 <;> cases nbP o n 3 <;> simp <;> omega
theorem dir0 (o : Nat → Bool) : dirC o 0 64 = sdV o := cnt_cg' 64 (fun c hc => by
  rw [nbP_iff]
  show (o c = true ∧ decide (8 ≤ c) = true ∧ o (c - 8) = true) ↔ _
  rw [decide_eq_true_eq])
theorem dir3 (o : Nat → Bool) : dirC o 3 64 = sdH o := cnt_cg' 64 (fun c hc => by
  rw [nbP_iff]
  show (o c = true ∧ decide (c % 8 ≠ 0) = true ∧ o (c - 1) = true) ↔ _
  rw [decide_eq_true_eq]
  constructor
  · rintro ⟨a, b, e⟩; exact ⟨a, ⟨by omega, e⟩, b⟩
  · rintro ⟨a, ⟨b, e⟩, f⟩; exact ⟨a, f, e⟩)
theorem cnt_shift {p q : Nat → Prop} [DecidablePred p] [DecidablePred q] (s : Nat) (h0 : ∀ i, i < s → ¬ p i) (h : ∀ i, p (i + s) ↔ q i) : ∀ n, cnt p (n + s) = cnt q n
  | 0 => by
    rw [Nat.zero_add]
    have := cnt_tail (p := p) 0 s (fun c _ b => h0 c (by omega))
    rw [Nat.zero_add] at this
    rw [this]
    rfl
  | n + 1 => by
    rw [show n + 1 + s = n + s + 1 by omega]
    show cnt p (n + s) + (if p (n + s) then 1 else 0) = cnt q n + (if q n then 1 else 0)
    rw [cnt_shift s h0 h n]
    by_cases c : q n
    · rw [if_pos c, if_pos ((h n).mpr c)]
    · rw [if_neg c, if_neg (fun x => c ((h n).mp x))]
theorem dir2 (o : Nat → Bool) : dirC o 2 64 = sdV o := by
  have h1 := cnt_shift (p := fun c => o c = true ∧ 8 ≤ c ∧ o (c - 8) = true) (q := fun c => o (c + 8) = true ∧ o c = true) 8 (fun i hi q => by omega) (fun i => by
    rw [Nat.add_sub_cancel]
    constructor
    · rintro ⟨a, _, b⟩; exact ⟨a, b⟩
    · rintro ⟨a, b⟩; exact ⟨a, by omega, b⟩) 56
  have h2 := cnt_tail (p := fun c => o c = true ∧ nbP o c 2 = true) 56 8 (fun c a b q => by
    have := (nbP_iff.mp q.2).1
    have : c + 8 < 64 := of_decide_eq_true this
    omega)
  show cnt (fun c => o c = true ∧ nbP o c 2 = true) (56 + 8) = cnt (fun c => o c = true ∧ 8 ≤ c ∧ o (c - 8) = true) (56 + 8)
  rw [h1, h2]
  refine cnt_cg' 56 (fun c hc => ?_)
  rw [nbP_iff]
  show (o c = true ∧ decide (c + 8 < 64) = true ∧ o (c + 8) = true) ↔ _
  rw [decide_eq_true_eq]
  constructor
  · rintro ⟨a, b, e⟩; exact ⟨e, a⟩
  · rintro ⟨a, b⟩; exact ⟨b, by omega, a⟩
theorem dir1 (o : Nat → Bool) : dirC o 1 64 = sdH o := by
  have h1 := cnt_shift (p := fun c => o c = true ∧ (1 ≤ c ∧ o (c - 1) = true) ∧ c % 8 ≠ 0) (q := fun c => o c = true ∧ nbP o c 1 = true) 1 (fun i hi q => by omega) (fun i => by
    rw [Nat.add_sub_cancel, nbP_iff]
    show _ ↔ (o i = true ∧ decide (i % 8 ≠ 7) = true ∧ o (i + 1) = true)
    rw [decide_eq_true_eq]
    constructor
    · rintro ⟨a, ⟨_, b⟩, e⟩; exact ⟨b, by omega, a⟩
    · rintro ⟨a, b, e⟩; exact ⟨e, ⟨by omega, a⟩, by omega⟩) 63
  have h2 := cnt_tail (p := fun c => o c = true ∧ nbP o c 1 = true) 63 1 (fun c a b q => by
    have := (nbP_iff.mp q.2).1
    have : c % 8 ≠ 7 := of_decide_eq_true this
    omega)
  show cnt (fun c => o c = true ∧ nbP o c 1 = true) (63 + 1) = cnt (fun c => o c = true ∧ (1 ≤ c ∧ o (c - 1) = true) ∧ c % 8 ≠ 0) (63 + 1)
  rw [h1, h2]
theorem opT_all (o : Nat → Bool) : (opT o 64 : Int) = 4 * (sdN o : Int) - 2 * ((sdV o : Int) + sdH o) := by
  have := opT_dir o 64
  rw [dir0, dir1, dir2, dir3] at this
  unfold sdN
  omega
theorem m_osW (hz : Lay z) (ho : ∀ c, c < 64 → v 209 (5 + c) = if o c = true then 1 else 0) {c B : Nat} (hc : c < 64) (hB : B ≤ 1000) : ∀ (m w : Nat) (t : List xv), w + m = 4 →
    xGo (EvM TB (d + 3)) (TB 265) Q 12 (.inr (.inl 208) :: .inl ((B + opW o c w : Nat) : Int) :: .inl c :: .inl w :: t) [] z v = xGo (EvM TB (d + 3)) (TB 265) Q 66 (.inr (.inl 208) :: .inl ((B + opW o c 4 : Nat) : Int) :: .inl c :: .inl 4 :: t) [] z v := by
  have hoc := ho c hc
  have e0 : wr ((5 : Int) + c) = ((5 + c : Nat) : Int) := by rw [wr_p (by omega) (by omega)]; omega
  have f0 : (0 : Int) ≤ ((5 + c : Nat) : Int) ∧ ((5 + c : Nat) : Int) < 247 := by clear e0; omega
  have e3 : ((c : Int)).tmod 8 = ((c % 8 : Nat) : Int) := rfl
  have e4 : wr (((c : Int)).tdiv 8) = ((c / 8 : Nat) : Int) := by clear e0; rw [show ((c : Int)).tdiv 8 = ((c / 8 : Nat) : Int) from rfl, wr_p (by omega) (by omega)]
  intro m
  induction m with
  | zero =>
    intro w t hw
    obtain rfl : w = 4 := by clear e0 e4; omega
    rw [l_265_12]
    simp -implicitDefEqProofs only [lay_n, lay_i, lay_a, lay_l, x_nil, x_iconst, x_lconst, x_ldc, x_iload, x_aload, x_lload, x_istore, x_astore, x_lstore, x_iinc, x_iadd, x_isub, x_imul, x_idiv, x_irem, x_ineg, x_iand, x_ior, x_ixor, x_ishl, x_ishr, x_iushr, x_i2b, x_i2c, x_i2l, x_l2i, x_ladd, x_lsub, x_lmul, x_land, x_lor, x_lxor, x_ldiv, x_lrem, x_lneg, x_lshl, x_lushr, x_lcmp, x_max, x_min, x_abs, x_labs, x_lmax, x_dupI, x_dupA, x_dup2, x_popI, x_popA, x_goto, x_eq, x_ne, x_lt, x_ge, x_gt, x_le, x_ceq, x_cne, x_clt, x_cge, x_cgt, x_cle, x_sw, x_getI, x_getR, x_putI, x_putZ, x_putR, x_new, x_newI, x_newC, x_newL, x_anew, x_multi, x_alen, x_iald, x_cald, x_bald, x_lald, x_aald, x_iast, x_cast, x_last, x_aast, x_copy, x_obj, x_call, x_callL, x_iret, x_zret, x_cret, x_bret, x_lret, x_ret, ldI_i, ldA_a, ldL_l, nth_0, nth_s, sto_n0, sto_ns, sto_0, sto_i, sto_a, sto_l0, sto_ls, psh_t, psh_f, spl, splL, sh4, rcv, swK, stoL, clr, reduceIte, Int.reduceEq, Int.reduceLT, Int.reduceLE, Int.reduceAdd, Int.reduceSub, Int.reduceNeg, or_true, true_or, or_false, false_or, false_and, and_false, not_false_eq_true, not_true_eq_false, ne_eq, Nat.reduceDiv, Nat.reduceMod, Nat.reduceAdd, Nat.reduceMul, Nat.reduceBEq, Int.reduceToNat, Int.toNat_natCast, Nat.reduceEqDiff, Nat.reduceLT, Nat.reduceLeDiff, beq_self_eq_true, beq_iff_eq, true_and, and_true, Bool.false_eq_true, ite_self, Int.reduceTMod, Int.reduceTDiv, List.tail_cons, List.cons_append, List.nil_append, Nat.zero_add, show ¬ ((4 : Nat) : Int) < 4 by decide]
    rfl
  | succ m ih =>
    intro w t hw
    have hcl : opW o c w ≤ w := cnt_le _ w
    have g1 := fun Q => (@m_nbO d z v Q o hz ho c w hc (by clear e0 e4; omega)).1
    unfold dxW dyW at g1
    have ih1 := ih (w + 1) t (by clear e0 e4 g1; omega)
    rw [show opW o c (w + 1) = opW o c w + (if o c = true ∧ ¬ nbP o c w = true then 1 else 0) from rfl] at ih1
    rw [l_265_12]
    by_cases oc : o c = true
    · rw [if_pos oc] at hoc
      by_cases hn : nbP o c w = true
      · rw [if_neg (fun q => q.2 hn), Nat.add_zero] at ih1
        simp -implicitDefEqProofs only [lay_n, lay_i, lay_a, lay_l, x_nil, x_iconst, x_lconst, x_ldc, x_iload, x_aload, x_lload, x_istore, x_astore, x_lstore, x_iinc, x_iadd, x_isub, x_imul, x_idiv, x_irem, x_ineg, x_iand, x_ior, x_ixor, x_ishl, x_ishr, x_iushr, x_i2b, x_i2c, x_i2l, x_l2i, x_ladd, x_lsub, x_lmul, x_land, x_lor, x_lxor, x_ldiv, x_lrem, x_lneg, x_lshl, x_lushr, x_lcmp, x_max, x_min, x_abs, x_labs, x_lmax, x_dupI, x_dupA, x_dup2, x_popI, x_popA, x_goto, x_eq, x_ne, x_lt, x_ge, x_gt, x_le, x_ceq, x_cne, x_clt, x_cge, x_cgt, x_cle, x_sw, x_getI, x_getR, x_putI, x_putZ, x_putR, x_new, x_newI, x_newC, x_newL, x_anew, x_multi, x_alen, x_iald, x_cald, x_bald, x_lald, x_aald, x_iast, x_cast, x_last, x_aast, x_copy, x_obj, x_call, x_callL, x_iret, x_zret, x_cret, x_bret, x_lret, x_ret, ldI_i, ldA_a, ldL_l, nth_0, nth_s, sto_n0, sto_ns, sto_0, sto_i, sto_a, sto_l0, sto_ls, psh_t, psh_f, spl, splL, sh4, rcv, swK, stoL, clr, reduceIte, Int.reduceEq, Int.reduceLT, Int.reduceLE, Int.reduceAdd, Int.reduceSub, Int.reduceNeg, or_true, true_or, or_false, false_or, false_and, and_false, not_false_eq_true, not_true_eq_false, ne_eq, Nat.reduceDiv, Nat.reduceMod, Nat.reduceAdd, Nat.reduceMul, Nat.reduceBEq, Int.reduceToNat, Int.toNat_natCast, Nat.reduceEqDiff, Nat.reduceLT, Nat.reduceLeDiff, beq_self_eq_true, beq_iff_eq, true_and, and_true, Bool.false_eq_true, ite_self, Int.reduceTMod, Int.reduceTDiv, List.tail_cons, List.cons_append, List.nil_append, Nat.zero_add, g_265_60, hh_208 hz, hr_208_1 hz, hr_208_2 hz, hr_208_4 hz, hr_208_7 hz, hr_208_8 hz, hr_208_9 hz, hr_208_15 hz, hr_208_16 hz, hr_208_17 hz, hr_208_18 hz, hr_208_19 hz, hr_208_20 hz, hr_208_21 hz, hr_208_22 hz, hr_208_26 hz, hr_208_33 hz, hr_208_35 hz, hr_208_36 hz, hr_208_38 hz, hr_208_39 hz, hr_208_40 hz, hr_208_41 hz, hr_208_42 hz, hr_208_43 hz, hr_208_44 hz, hr_208_45 hz, hr_208_47 hz, hr_208_48 hz, hr_208_49 hz, hr_208_50 hz, hr_208_51 hz, hr_208_52 hz, hr_208_53 hz, hr_208_55 hz, hr_208_57 hz, hr_208_58 hz, hr_208_60 hz, hr_208_62 hz, hr_208_63 hz, hr_208_64 hz, hr_208_68 hz, hh_209 hz, hc_209 hz, hh_210 hz, hc_210 hz, hh_211 hz, hc_211 hz, hh_212 hz, hc_212 hz, hh_213 hz, hc_213 hz, hh_214 hz, hc_214 hz, hh_215 hz, hc_215 hz, hh_216 hz, hc_216 hz, hh_217 hz, hc_217 hz, hh_218 hz, hc_218 hz, hh_219 hz, hc_219 hz, hh_220 hz, hc_220 hz, hh_221 hz, hc_221 hz, hh_222 hz, hc_222 hz, hh_223 hz, hc_223 hz, hh_224 hz, hc_224 hz, hh_225 hz, hc_225 hz, hh_226 hz, hc_226 hz, hh_227 hz, hc_227 hz, hh_228 hz, hc_228 hz, hh_229 hz, hc_229 hz, hh_230 hz, hc_230 hz, hh_231 hz, hc_231 hz, hh_232 hz, hc_232 hz, hh_233 hz, hc_233 hz, hh_234 hz, hc_234 hz, hh_235 hz, hc_235 hz, hh_236 hz, hc_236 hz, hh_237 hz, hc_237 hz, hh_238 hz, hc_238 hz, hh_239 hz, hc_239 hz, hh_240 hz, hc_240 hz, hh_241 hz, hc_241 hz, hh_242 hz, hc_242 hz, hh_243 hz, hc_243 hz, hh_244 hz, hc_244 hz, hh_245 hz, hc_245 hz, hh_246 hz, hc_246 hz, hh_247 hz, hc_247 hz, hh_248 hz, hc_248 hz, hh_249 hz, hc_249 hz, show (w : Int) < 4 by clear e0 e4 g1; omega, e0, f0, hoc, e3, e4, m_xTo, m_yTo, g1, hn, wr_s (show w < 1000000 by clear e0 e4 g1; omega)]
        exact ih1
      · rw [if_pos ⟨oc, hn⟩, ← Nat.add_assoc] at ih1
        simp -implicitDefEqProofs only [lay_n, lay_i, lay_a, lay_l, x_nil, x_iconst, x_lconst, x_ldc, x_iload, x_aload, x_lload, x_istore, x_astore, x_lstore, x_iinc, x_iadd, x_isub, x_imul, x_idiv, x_irem, x_ineg, x_iand, x_ior, x_ixor, x_ishl, x_ishr, x_iushr, x_i2b, x_i2c, x_i2l, x_l2i, x_ladd, x_lsub, x_lmul, x_land, x_lor, x_lxor, x_ldiv, x_lrem, x_lneg, x_lshl, x_lushr, x_lcmp, x_max, x_min, x_abs, x_labs, x_lmax, x_dupI, x_dupA, x_dup2, x_popI, x_popA, x_goto, x_eq, x_ne, x_lt, x_ge, x_gt, x_le, x_ceq, x_cne, x_clt, x_cge, x_cgt, x_cle, x_sw, x_getI, x_getR, x_putI, x_putZ, x_putR, x_new, x_newI, x_newC, x_newL, x_anew, x_multi, x_alen, x_iald, x_cald, x_bald, x_lald, x_aald, x_iast, x_cast, x_last, x_aast, x_copy, x_obj, x_call, x_callL, x_iret, x_zret, x_cret, x_bret, x_lret, x_ret, ldI_i, ldA_a, ldL_l, nth_0, nth_s, sto_n0, sto_ns, sto_0, sto_i, sto_a, sto_l0, sto_ls, psh_t, psh_f, spl, splL, sh4, rcv, swK, stoL, clr, reduceIte, Int.reduceEq, Int.reduceLT, Int.reduceLE, Int.reduceAdd, Int.reduceSub, Int.reduceNeg, or_true, true_or, or_false, false_or, false_and, and_false, not_false_eq_true, not_true_eq_false, ne_eq, Nat.reduceDiv, Nat.reduceMod, Nat.reduceAdd, Nat.reduceMul, Nat.reduceBEq, Int.reduceToNat, Int.toNat_natCast, Nat.reduceEqDiff, Nat.reduceLT, Nat.reduceLeDiff, beq_self_eq_true, beq_iff_eq, true_and, and_true, Bool.false_eq_true, ite_self, Int.reduceTMod, Int.reduceTDiv, List.tail_cons, List.cons_append, List.nil_append, Nat.zero_add, g_265_60, hh_208 hz, hr_208_1 hz, hr_208_2 hz, hr_208_4 hz, hr_208_7 hz, hr_208_8 hz, hr_208_9 hz, hr_208_15 hz, hr_208_16 hz, hr_208_17 hz, hr_208_18 hz, hr_208_19 hz, hr_208_20 hz, hr_208_21 hz, hr_208_22 hz, hr_208_26 hz, hr_208_33 hz, hr_208_35 hz, hr_208_36 hz, hr_208_38 hz, hr_208_39 hz, hr_208_40 hz, hr_208_41 hz, hr_208_42 hz, hr_208_43 hz, hr_208_44 hz, hr_208_45 hz, hr_208_47 hz, hr_208_48 hz, hr_208_49 hz, hr_208_50 hz, hr_208_51 hz, hr_208_52 hz, hr_208_53 hz, hr_208_55 hz, hr_208_57 hz, hr_208_58 hz, hr_208_60 hz, hr_208_62 hz, hr_208_63 hz, hr_208_64 hz, hr_208_68 hz, hh_209 hz, hc_209 hz, hh_210 hz, hc_210 hz, hh_211 hz, hc_211 hz, hh_212 hz, hc_212 hz, hh_213 hz, hc_213 hz, hh_214 hz, hc_214 hz, hh_215 hz, hc_215 hz, hh_216 hz, hc_216 hz, hh_217 hz, hc_217 hz, hh_218 hz, hc_218 hz, hh_219 hz, hc_219 hz, hh_220 hz, hc_220 hz, hh_221 hz, hc_221 hz, hh_222 hz, hc_222 hz, hh_223 hz, hc_223 hz, hh_224 hz, hc_224 hz, hh_225 hz, hc_225 hz, hh_226 hz, hc_226 hz, hh_227 hz, hc_227 hz, hh_228 hz, hc_228 hz, hh_229 hz, hc_229 hz, hh_230 hz, hc_230 hz, hh_231 hz, hc_231 hz, hh_232 hz, hc_232 hz, hh_233 hz, hc_233 hz, hh_234 hz, hc_234 hz, hh_235 hz, hc_235 hz, hh_236 hz, hc_236 hz, hh_237 hz, hc_237 hz, hh_238 hz, hc_238 hz, hh_239 hz, hc_239 hz, hh_240 hz, hc_240 hz, hh_241 hz, hc_241 hz, hh_242 hz, hc_242 hz, hh_243 hz, hc_243 hz, hh_244 hz, hc_244 hz, hh_245 hz, hc_245 hz, hh_246 hz, hc_246 hz, hh_247 hz, hc_247 hz, hh_248 hz, hc_248 hz, hh_249 hz, hc_249 hz, show (w : Int) < 4 by clear e0 e4 g1; omega, e0, f0, hoc, e3, e4, m_xTo, m_yTo, g1, hn, wr_s (show w < 1000000 by clear e0 e4 g1; omega), wr_s (show B + opW o c w < 1000000 by clear e0 e4 g1; omega)]
        exact ih1
    · rw [if_neg oc] at hoc
      rw [if_neg (fun q => oc q.1), Nat.add_zero] at ih1
      simp -implicitDefEqProofs only [lay_n, lay_i, lay_a, lay_l, x_nil, x_iconst, x_lconst, x_ldc, x_iload, x_aload, x_lload, x_istore, x_astore, x_lstore, x_iinc, x_iadd, x_isub, x_imul, x_idiv, x_irem, x_ineg, x_iand, x_ior, x_ixor, x_ishl, x_ishr, x_iushr, x_i2b, x_i2c, x_i2l, x_l2i, x_ladd, x_lsub, x_lmul, x_land, x_lor, x_lxor, x_ldiv, x_lrem, x_lneg, x_lshl, x_lushr, x_lcmp, x_max, x_min, x_abs, x_labs, x_lmax, x_dupI, x_dupA, x_dup2, x_popI, x_popA, x_goto, x_eq, x_ne, x_lt, x_ge, x_gt, x_le, x_ceq, x_cne, x_clt, x_cge, x_cgt, x_cle, x_sw, x_getI, x_getR, x_putI, x_putZ, x_putR, x_new, x_newI, x_newC, x_newL, x_anew, x_multi, x_alen, x_iald, x_cald, x_bald, x_lald, x_aald, x_iast, x_cast, x_last, x_aast, x_copy, x_obj, x_call, x_callL, x_iret, x_zret, x_cret, x_bret, x_lret, x_ret, ldI_i, ldA_a, ldL_l, nth_0, nth_s, sto_n0, sto_ns, sto_0, sto_i, sto_a, sto_l0, sto_ls, psh_t, psh_f, spl, splL, sh4, rcv, swK, stoL, clr, reduceIte, Int.reduceEq, Int.reduceLT, Int.reduceLE, Int.reduceAdd, Int.reduceSub, Int.reduceNeg, or_true, true_or, or_false, false_or, false_and, and_false, not_false_eq_true, not_true_eq_false, ne_eq, Nat.reduceDiv, Nat.reduceMod, Nat.reduceAdd, Nat.reduceMul, Nat.reduceBEq, Int.reduceToNat, Int.toNat_natCast, Nat.reduceEqDiff, Nat.reduceLT, Nat.reduceLeDiff, beq_self_eq_true, beq_iff_eq, true_and, and_true, Bool.false_eq_true, ite_self, Int.reduceTMod, Int.reduceTDiv, List.tail_cons, List.cons_append, List.nil_append, Nat.zero_add, g_265_60, hh_208 hz, hr_208_1 hz, hr_208_2 hz, hr_208_4 hz, hr_208_7 hz, hr_208_8 hz, hr_208_9 hz, hr_208_15 hz, hr_208_16 hz, hr_208_17 hz, hr_208_18 hz, hr_208_19 hz, hr_208_20 hz, hr_208_21 hz, hr_208_22 hz, hr_208_26 hz, hr_208_33 hz, hr_208_35 hz, hr_208_36 hz, hr_208_38 hz, hr_208_39 hz, hr_208_40 hz, hr_208_41 hz, hr_208_42 hz, hr_208_43 hz, hr_208_44 hz, hr_208_45 hz, hr_208_47 hz, hr_208_48 hz, hr_208_49 hz, hr_208_50 hz, hr_208_51 hz, hr_208_52 hz, hr_208_53 hz, hr_208_55 hz, hr_208_57 hz, hr_208_58 hz, hr_208_60 hz, hr_208_62 hz, hr_208_63 hz, hr_208_64 hz, hr_208_68 hz, hh_209 hz, hc_209 hz, hh_210 hz, hc_210 hz, hh_211 hz, hc_211 hz, hh_212 hz, hc_212 hz, hh_213 hz, hc_213 hz, hh_214 hz, hc_214 hz, hh_215 hz, hc_215 hz, hh_216 hz, hc_216 hz, hh_217 hz, hc_217 hz, hh_218 hz, hc_218 hz, hh_219 hz, hc_219 hz, hh_220 hz, hc_220 hz, hh_221 hz, hc_221 hz, hh_222 hz, hc_222 hz, hh_223 hz, hc_223 hz, hh_224 hz, hc_224 hz, hh_225 hz, hc_225 hz, hh_226 hz, hc_226 hz, hh_227 hz, hc_227 hz, hh_228 hz, hc_228 hz, hh_229 hz, hc_229 hz, hh_230 hz, hc_230 hz, hh_231 hz, hc_231 hz, hh_232 hz, hc_232 hz, hh_233 hz, hc_233 hz, hh_234 hz, hc_234 hz, hh_235 hz, hc_235 hz, hh_236 hz, hc_236 hz, hh_237 hz, hc_237 hz, hh_238 hz, hc_238 hz, hh_239 hz, hc_239 hz, hh_240 hz, hc_240 hz, hh_241 hz, hc_241 hz, hh_242 hz, hc_242 hz, hh_243 hz, hc_243 hz, hh_244 hz, hc_244 hz, hh_245 hz, hc_245 hz, hh_246 hz, hc_246 hz, hh_247 hz, hc_247 hz, hh_248 hz, hc_248 hz, hh_249 hz, hc_249 hz, show (w : Int) < 4 by clear e0 e4 g1; omega, e0, f0, hoc, wr_s (show w < 1000000 by clear e0 e4 g1; omega)]
      exact ih1
theorem m_osC (hz : Lay z) (ho : ∀ c, c < 64 → v 209 (5 + c) = if o c = true then 1 else 0) : ∀ (m c : Nat) (t : List xv), c + m = 64 →
    xGo (EvM TB (d + 3)) (TB 265) Q 4 (.inr (.inl 208) :: .inl (opT o c : Int) :: .inl c :: t) [] z v = Q z v (.inl (opT o 64 : Int)) := by
  intro m
  induction m with
  | zero =>
    intro c t hc
    obtain rfl : c = 64 := by omega
    rw [l_265_4]
    simp -implicitDefEqProofs only [lay_n, lay_i, lay_a, lay_l, x_nil, x_iconst, x_lconst, x_ldc, x_iload, x_aload, x_lload, x_istore, x_astore, x_lstore, x_iinc, x_iadd, x_isub, x_imul, x_idiv, x_irem, x_ineg, x_iand, x_ior, x_ixor, x_ishl, x_ishr, x_iushr, x_i2b, x_i2c, x_i2l, x_l2i, x_ladd, x_lsub, x_lmul, x_land, x_lor, x_lxor, x_ldiv, x_lrem, x_lneg, x_lshl, x_lushr, x_lcmp, x_max, x_min, x_abs, x_labs, x_lmax, x_dupI, x_dupA, x_dup2, x_popI, x_popA, x_goto, x_eq, x_ne, x_lt, x_ge, x_gt, x_le, x_ceq, x_cne, x_clt, x_cge, x_cgt, x_cle, x_sw, x_getI, x_getR, x_putI, x_putZ, x_putR, x_new, x_newI, x_newC, x_newL, x_anew, x_multi, x_alen, x_iald, x_cald, x_bald, x_lald, x_aald, x_iast, x_cast, x_last, x_aast, x_copy, x_obj, x_call, x_callL, x_iret, x_zret, x_cret, x_bret, x_lret, x_ret, ldI_i, ldA_a, ldL_l, nth_0, nth_s, sto_n0, sto_ns, sto_0, sto_i, sto_a, sto_l0, sto_ls, psh_t, psh_f, spl, splL, sh4, rcv, swK, stoL, clr, reduceIte, Int.reduceEq, Int.reduceLT, Int.reduceLE, Int.reduceAdd, Int.reduceSub, Int.reduceNeg, or_true, true_or, or_false, false_or, false_and, and_false, not_false_eq_true, not_true_eq_false, ne_eq, Nat.reduceDiv, Nat.reduceMod, Nat.reduceAdd, Nat.reduceMul, Nat.reduceBEq, Int.reduceToNat, Int.toNat_natCast, Nat.reduceEqDiff, Nat.reduceLT, Nat.reduceLeDiff, beq_self_eq_true, beq_iff_eq, true_and, and_true, Bool.false_eq_true, ite_self, Int.reduceTMod, Int.reduceTDiv, List.tail_cons, List.cons_append, List.nil_append, Nat.zero_add, g_265_0, g_265_60, g_265_66, g_265_72, show ¬ ((64 : Nat) : Int) < 64 by decide]
  | succ m ih =>
    intro c t hc
    have hb := opT_le o c
    rw [l_265_4]
    simp -implicitDefEqProofs only [lay_n, lay_i, lay_a, lay_l, x_nil, x_iconst, x_lconst, x_ldc, x_iload, x_aload, x_lload, x_istore, x_astore, x_lstore, x_iinc, x_iadd, x_isub, x_imul, x_idiv, x_irem, x_ineg, x_iand, x_ior, x_ixor, x_ishl, x_ishr, x_iushr, x_i2b, x_i2c, x_i2l, x_l2i, x_ladd, x_lsub, x_lmul, x_land, x_lor, x_lxor, x_ldiv, x_lrem, x_lneg, x_lshl, x_lushr, x_lcmp, x_max, x_min, x_abs, x_labs, x_lmax, x_dupI, x_dupA, x_dup2, x_popI, x_popA, x_goto, x_eq, x_ne, x_lt, x_ge, x_gt, x_le, x_ceq, x_cne, x_clt, x_cge, x_cgt, x_cle, x_sw, x_getI, x_getR, x_putI, x_putZ, x_putR, x_new, x_newI, x_newC, x_newL, x_anew, x_multi, x_alen, x_iald, x_cald, x_bald, x_lald, x_aald, x_iast, x_cast, x_last, x_aast, x_copy, x_obj, x_call, x_callL, x_iret, x_zret, x_cret, x_bret, x_lret, x_ret, ldI_i, ldA_a, ldL_l, nth_0, nth_s, sto_n0, sto_ns, sto_0, sto_i, sto_a, sto_l0, sto_ls, psh_t, psh_f, spl, splL, sh4, rcv, swK, stoL, clr, reduceIte, Int.reduceEq, Int.reduceLT, Int.reduceLE, Int.reduceAdd, Int.reduceSub, Int.reduceNeg, or_true, true_or, or_false, false_or, false_and, and_false, not_false_eq_true, not_true_eq_false, ne_eq, Nat.reduceDiv, Nat.reduceMod, Nat.reduceAdd, Nat.reduceMul, Nat.reduceBEq, Int.reduceToNat, Int.toNat_natCast, Nat.reduceEqDiff, Nat.reduceLT, Nat.reduceLeDiff, beq_self_eq_true, beq_iff_eq, true_and, and_true, Bool.false_eq_true, ite_self, Int.reduceTMod, Int.reduceTDiv, List.tail_cons, List.cons_append, List.nil_append, Nat.zero_add, show (c : Int) < 64 by omega, sto_t]
    have := @m_osW d z v Q o hz ho c (opT o c) (by omega) (by omega) 4 0 t.tail (by omega)
    refine this.trans ?_
    simp -implicitDefEqProofs only [lay_n, lay_i, lay_a, lay_l, x_nil, x_iconst, x_lconst, x_ldc, x_iload, x_aload, x_lload, x_istore, x_astore, x_lstore, x_iinc, x_iadd, x_isub, x_imul, x_idiv, x_irem, x_ineg, x_iand, x_ior, x_ixor, x_ishl, x_ishr, x_iushr, x_i2b, x_i2c, x_i2l, x_l2i, x_ladd, x_lsub, x_lmul, x_land, x_lor, x_lxor, x_ldiv, x_lrem, x_lneg, x_lshl, x_lushr, x_lcmp, x_max, x_min, x_abs, x_labs, x_lmax, x_dupI, x_dupA, x_dup2, x_popI, x_popA, x_goto, x_eq, x_ne, x_lt, x_ge, x_gt, x_le, x_ceq, x_cne, x_clt, x_cge, x_cgt, x_cle, x_sw, x_getI, x_getR, x_putI, x_putZ, x_putR, x_new, x_newI, x_newC, x_newL, x_anew, x_multi, x_alen, x_iald, x_cald, x_bald, x_lald, x_aald, x_iast, x_cast, x_last, x_aast, x_copy, x_obj, x_call, x_callL, x_iret, x_zret, x_cret, x_bret, x_lret, x_ret, ldI_i, ldA_a, ldL_l, nth_0, nth_s, sto_n0, sto_ns, sto_0, sto_i, sto_a, sto_l0, sto_ls, psh_t, psh_f, spl, splL, sh4, rcv, swK, stoL, clr, reduceIte, Int.reduceEq, Int.reduceLT, Int.reduceLE, Int.reduceAdd, Int.reduceSub, Int.reduceNeg, or_true, true_or, or_false, false_or, false_and, and_false, not_false_eq_true, not_true_eq_false, ne_eq, Nat.reduceDiv, Nat.reduceMod, Nat.reduceAdd, Nat.reduceMul, Nat.reduceBEq, Int.reduceToNat, Int.toNat_natCast, Nat.reduceEqDiff, Nat.reduceLT, Nat.reduceLeDiff, beq_self_eq_true, beq_iff_eq, true_and, and_true, Bool.false_eq_true, ite_self, Int.reduceTMod, Int.reduceTDiv, List.tail_cons, List.cons_append, List.nil_append, Nat.zero_add, g_265_0, g_265_60, g_265_66, g_265_72, wr_s (show c < 1000000 by omega)]
    exact ih (c + 1) _ (by omega)
end SV
