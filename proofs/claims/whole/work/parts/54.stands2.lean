/-! ===== stands: class, the call ===== -/
def sdV (o : Nat → Bool) : Nat := cnt (fun c => o c = true ∧ 8 ≤ c ∧ o (c - 8) = true) 64
def sdH (o : Nat → Bool) : Nat := cnt (fun c => o c = true ∧ (1 ≤ c ∧ o (c - 1) = true) ∧ c % 8 ≠ 0) 64
def sdN (o : Nat → Bool) : Nat := cnt (fun c => o c = true) 64
noncomputable def standsR (o : Nat → Bool) (what : Int) : Int := if 0 ≤ what ∧ what ≤ 2 then (if what = 2 then 4 * (sdN o : Int) - 2 * ((sdV o : Int) + sdH o) else if what = 0 then (cnt (fun c => o c = true ∧ st0 o c = c) 64 : Int) else (mgR o (st0 o) 64 : Int)) else -1
theorem cnt_cg' {p q : Nat → Prop} [DecidablePred p] [DecidablePred q] : ∀ k, (∀ i, i < k → (p i ↔ q i)) → cnt p k = cnt q k
  | 0, _ => rfl
  | k + 1, h => by
    unfold cnt
    rw [cnt_cg' k (fun i hi => h i (by omega))]
    by_cases c : p k
    · rw [if_pos c, if_pos ((h k (by omega)).mp c)]
    · rw [if_neg c, if_neg (fun x => c ((h k (by omega)).mpr x))]
section SU
variable {d : Nat} {z : xZ} {v : xV} {Q : xZ → xV → xv → Prop} {o : Nat → Bool}
/-- what is left above: no more stands -/
theorem cnt_tail {p : Nat → Prop} [DecidablePred p] (t : Nat) : ∀ k, (∀ c, t ≤ c → c < t + k → ¬ p c) → cnt p (t + k) = cnt p t
  | 0, _ => rfl
  | k + 1, h => by
    show cnt p (t + k) + (if p (t + k) then 1 else 0) = _
    rw [cnt_tail t k (fun c a b => h c a (by omega)), if_neg (h (t + k) (by omega) (by omega))]
    rfl
theorem mgR_tail {st : Nat → Nat} (t : Nat) : ∀ k, (∀ c, t ≤ c → c < t + k → ¬ (o c = true ∧ st c = c)) → mgR o st (t + k) = mgR o st t
  | 0, _ => rfl
  | k + 1, h => by
    show (if o (t + k) = true ∧ st (t + k) = t + k then _ else mgR o st (t + k)) = _
    rw [if_neg (h (t + k) (by omega) (by omega)), mgR_tail t k (fun c a b => h c a (by omega))]
theorem e_stL {a : Nat} {what : Int} {X : Int64} : ∀ (m t : Nat) (x : Int64) (tl : List xv), t + m = 64 → (∀ c, c < 64 → lbt x c = (o c && decide (t ≤ st0 o c))) →
    xGo (EvM TB (d + 1)) (TB 104) Q 82 (.inr (.inl a) :: .inl what :: .inr (.inr (.inl X)) :: .inr (.inr (.inr ())) :: .inl (cnt (fun c => o c = true ∧ st0 o c = c) t : Int) :: .inl (mgR o (st0 o) t : Int) :: .inr (.inr (.inl x)) :: .inr (.inr (.inr ())) :: .inl (cnt (fun c => o c = true ∧ st0 o c = c) t : Int) :: tl) [] z v = Q z v (.inl (if what = 0 then (cnt (fun c => o c = true ∧ st0 o c = c) 64 : Int) else (mgR o (st0 o) 64 : Int))) := by
  obtain ⟨L, F⟩ := st0_ok o
  have idem : ∀ c, c < 64 → o c = true → st0 o (st0 o c) = st0 o c := by
    intro c hc oc
    obtain ⟨a1, a2, a3⟩ := L c hc oc
    exact ((fix_con F (show st0 o c < 64 by omega) a2 a3).2.2).symm
  intro m
  induction m using Nat.strongRecOn with
  | _ m ih =>
    intro t x tl htm hx
    have hcl := cnt_le (fun c => o c = true ∧ st0 o c = c) t
    rw [l_104_82]
    by_cases hz : ∀ c, c < 64 → lbt x c = false
    · have h0 := lbt_zero.mpr hz
      have none : ∀ c, t ≤ c → c < t + m → ¬ (o c = true ∧ st0 o c = c) := by
        rintro c h1 h2 ⟨h3, h4⟩
        have := hz c (by omega)
        rw [hx c (by omega), h3, h4, decide_eq_true h1] at this
        cases this
      rw [← htm, cnt_tail t m none, mgR_tail t m none]
      by_cases hi : (cnt (fun c => o c = true ∧ st0 o c = c) t : Int) < 64
      · by_cases hw : what = 0
        · simp -implicitDefEqProofs only [lay_n, lay_i, lay_a, lay_l, x_nil, x_iconst, x_lconst, x_ldc, x_iload, x_aload, x_lload, x_istore, x_astore, x_lstore, x_iinc, x_iadd, x_isub, x_imul, x_idiv, x_irem, x_ineg, x_iand, x_ior, x_ixor, x_ishl, x_ishr, x_iushr, x_i2b, x_i2c, x_i2l, x_l2i, x_ladd, x_lsub, x_lmul, x_land, x_lor, x_lxor, x_ldiv, x_lrem, x_lneg, x_lshl, x_lushr, x_lcmp, x_max, x_min, x_abs, x_labs, x_lmax, x_dupI, x_dupA, x_dup2, x_popI, x_popA, x_goto, x_eq, x_ne, x_lt, x_ge, x_gt, x_le, x_ceq, x_cne, x_clt, x_cge, x_cgt, x_cle, x_sw, x_getI, x_getR, x_putI, x_putZ, x_putR, x_new, x_newI, x_newC, x_newL, x_anew, x_multi, x_alen, x_iald, x_cald, x_bald, x_lald, x_aald, x_iast, x_cast, x_last, x_aast, x_copy, x_obj, x_call, x_callL, x_iret, x_zret, x_cret, x_bret, x_lret, x_ret, ldI_i, ldA_a, ldL_l, nth_0, nth_s, sto_n0, sto_ns, sto_0, sto_i, sto_a, sto_l0, sto_ls, psh_t, psh_f, spl, splL, sh4, rcv, swK, stoL, clr, reduceIte, Int.reduceEq, Int.reduceLT, Int.reduceLE, Int.reduceAdd, Int.reduceSub, Int.reduceNeg, or_true, true_or, or_false, false_or, false_and, and_false, not_false_eq_true, not_true_eq_false, ne_eq, Nat.reduceDiv, Nat.reduceMod, Nat.reduceAdd, Nat.reduceMul, Nat.reduceBEq, Int.reduceToNat, Int.toNat_natCast, Nat.reduceEqDiff, Nat.reduceLT, Nat.reduceLeDiff, beq_self_eq_true, beq_iff_eq, true_and, and_true, Bool.false_eq_true, ite_self, Int.reduceTMod, Int.reduceTDiv, List.tail_cons, List.cons_append, List.nil_append, Nat.zero_add, g_104_0, g_104_29, g_104_70, g_104_141, g_104_150, g_104_152, hi, h0, hw]
        · simp -implicitDefEqProofs only [lay_n, lay_i, lay_a, lay_l, x_nil, x_iconst, x_lconst, x_ldc, x_iload, x_aload, x_lload, x_istore, x_astore, x_lstore, x_iinc, x_iadd, x_isub, x_imul, x_idiv, x_irem, x_ineg, x_iand, x_ior, x_ixor, x_ishl, x_ishr, x_iushr, x_i2b, x_i2c, x_i2l, x_l2i, x_ladd, x_lsub, x_lmul, x_land, x_lor, x_lxor, x_ldiv, x_lrem, x_lneg, x_lshl, x_lushr, x_lcmp, x_max, x_min, x_abs, x_labs, x_lmax, x_dupI, x_dupA, x_dup2, x_popI, x_popA, x_goto, x_eq, x_ne, x_lt, x_ge, x_gt, x_le, x_ceq, x_cne, x_clt, x_cge, x_cgt, x_cle, x_sw, x_getI, x_getR, x_putI, x_putZ, x_putR, x_new, x_newI, x_newC, x_newL, x_anew, x_multi, x_alen, x_iald, x_cald, x_bald, x_lald, x_aald, x_iast, x_cast, x_last, x_aast, x_copy, x_obj, x_call, x_callL, x_iret, x_zret, x_cret, x_bret, x_lret, x_ret, ldI_i, ldA_a, ldL_l, nth_0, nth_s, sto_n0, sto_ns, sto_0, sto_i, sto_a, sto_l0, sto_ls, psh_t, psh_f, spl, splL, sh4, rcv, swK, stoL, clr, reduceIte, Int.reduceEq, Int.reduceLT, Int.reduceLE, Int.reduceAdd, Int.reduceSub, Int.reduceNeg, or_true, true_or, or_false, false_or, false_and, and_false, not_false_eq_true, not_true_eq_false, ne_eq, Nat.reduceDiv, Nat.reduceMod, Nat.reduceAdd, Nat.reduceMul, Nat.reduceBEq, Int.reduceToNat, Int.toNat_natCast, Nat.reduceEqDiff, Nat.reduceLT, Nat.reduceLeDiff, beq_self_eq_true, beq_iff_eq, true_and, and_true, Bool.false_eq_true, ite_self, Int.reduceTMod, Int.reduceTDiv, List.tail_cons, List.cons_append, List.nil_append, Nat.zero_add, g_104_0, g_104_29, g_104_70, g_104_141, g_104_150, g_104_152, hi, h0, hw]
      · by_cases hw : what = 0
        · simp -implicitDefEqProofs only [lay_n, lay_i, lay_a, lay_l, x_nil, x_iconst, x_lconst, x_ldc, x_iload, x_aload, x_lload, x_istore, x_astore, x_lstore, x_iinc, x_iadd, x_isub, x_imul, x_idiv, x_irem, x_ineg, x_iand, x_ior, x_ixor, x_ishl, x_ishr, x_iushr, x_i2b, x_i2c, x_i2l, x_l2i, x_ladd, x_lsub, x_lmul, x_land, x_lor, x_lxor, x_ldiv, x_lrem, x_lneg, x_lshl, x_lushr, x_lcmp, x_max, x_min, x_abs, x_labs, x_lmax, x_dupI, x_dupA, x_dup2, x_popI, x_popA, x_goto, x_eq, x_ne, x_lt, x_ge, x_gt, x_le, x_ceq, x_cne, x_clt, x_cge, x_cgt, x_cle, x_sw, x_getI, x_getR, x_putI, x_putZ, x_putR, x_new, x_newI, x_newC, x_newL, x_anew, x_multi, x_alen, x_iald, x_cald, x_bald, x_lald, x_aald, x_iast, x_cast, x_last, x_aast, x_copy, x_obj, x_call, x_callL, x_iret, x_zret, x_cret, x_bret, x_lret, x_ret, ldI_i, ldA_a, ldL_l, nth_0, nth_s, sto_n0, sto_ns, sto_0, sto_i, sto_a, sto_l0, sto_ls, psh_t, psh_f, spl, splL, sh4, rcv, swK, stoL, clr, reduceIte, Int.reduceEq, Int.reduceLT, Int.reduceLE, Int.reduceAdd, Int.reduceSub, Int.reduceNeg, or_true, true_or, or_false, false_or, false_and, and_false, not_false_eq_true, not_true_eq_false, ne_eq, Nat.reduceDiv, Nat.reduceMod, Nat.reduceAdd, Nat.reduceMul, Nat.reduceBEq, Int.reduceToNat, Int.toNat_natCast, Nat.reduceEqDiff, Nat.reduceLT, Nat.reduceLeDiff, beq_self_eq_true, beq_iff_eq, true_and, and_true, Bool.false_eq_true, ite_self, Int.reduceTMod, Int.reduceTDiv, List.tail_cons, List.cons_append, List.nil_append, Nat.zero_add, g_104_0, g_104_29, g_104_70, g_104_141, g_104_150, g_104_152, hi, hw]
        · simp -implicitDefEqProofs only [lay_n, lay_i, lay_a, lay_l, x_nil, x_iconst, x_lconst, x_ldc, x_iload, x_aload, x_lload, x_istore, x_astore, x_lstore, x_iinc, x_iadd, x_isub, x_imul, x_idiv, x_irem, x_ineg, x_iand, x_ior, x_ixor, x_ishl, x_ishr, x_iushr, x_i2b, x_i2c, x_i2l, x_l2i, x_ladd, x_lsub, x_lmul, x_land, x_lor, x_lxor, x_ldiv, x_lrem, x_lneg, x_lshl, x_lushr, x_lcmp, x_max, x_min, x_abs, x_labs, x_lmax, x_dupI, x_dupA, x_dup2, x_popI, x_popA, x_goto, x_eq, x_ne, x_lt, x_ge, x_gt, x_le, x_ceq, x_cne, x_clt, x_cge, x_cgt, x_cle, x_sw, x_getI, x_getR, x_putI, x_putZ, x_putR, x_new, x_newI, x_newC, x_newL, x_anew, x_multi, x_alen, x_iald, x_cald, x_bald, x_lald, x_aald, x_iast, x_cast, x_last, x_aast, x_copy, x_obj, x_call, x_callL, x_iret, x_zret, x_cret, x_bret, x_lret, x_ret, ldI_i, ldA_a, ldL_l, nth_0, nth_s, sto_n0, sto_ns, sto_0, sto_i, sto_a, sto_l0, sto_ls, psh_t, psh_f, spl, splL, sh4, rcv, swK, stoL, clr, reduceIte, Int.reduceEq, Int.reduceLT, Int.reduceLE, Int.reduceAdd, Int.reduceSub, Int.reduceNeg, or_true, true_or, or_false, false_or, false_and, and_false, not_false_eq_true, not_true_eq_false, ne_eq, Nat.reduceDiv, Nat.reduceMod, Nat.reduceAdd, Nat.reduceMul, Nat.reduceBEq, Int.reduceToNat, Int.toNat_natCast, Nat.reduceEqDiff, Nat.reduceLT, Nat.reduceLeDiff, beq_self_eq_true, beq_iff_eq, true_and, and_true, Bool.false_eq_true, ite_self, Int.reduceTMod, Int.reduceTDiv, List.tail_cons, List.cons_append, List.nil_append, Nat.zero_add, g_104_0, g_104_29, g_104_70, g_104_141, g_104_150, g_104_152, hi, hw]
    · have h0 : ¬ _ := fun q => hz (lbt_zero.mp q)
      obtain ⟨c0, hc0, hb0⟩ : ∃ c, c < 64 ∧ lbt x c = true := by
        refine Classical.byContradiction fun q => hz fun c hc => ?_
        cases hh : lbt x c with
        | false => rfl
        | true => exact absurd ⟨c, hc, hh⟩ q
      obtain ⟨w1, w2, w3⟩ := lsS_spec (fun c => lbt x c = true) hb0 64 0 (Nat.zero_le _) (by omega)
      generalize hlow : lsS (fun c => lbt x c = true) 64 0 = low at *
      have hlow64 : low < 64 := by omega
      have hmin : ∀ c, c < low → lbt x c = false := by
        intro c hc
        cases hh : lbt x c with
        | false => rfl
        | true => exact absurd hh (w3 c (Nat.zero_le _) hc)
      have hol : o low = true ∧ t ≤ st0 o low := by
        have := hx low hlow64
        rw [show lbt x low = true from w1] at this
        simp -implicitDefEqProofs only [Bool.true_eq, Bool.and_eq_true, decide_eq_true_eq] at this
        exact this
      obtain ⟨l1, l2, l3⟩ := L low hlow64 hol.1
      have hst : st0 o low = low := by
        by_cases e : st0 o low = low
        · exact e
        · have h1 := hmin (st0 o low) (by omega)
          rw [hx _ (by omega), l2, idem low hlow64 hol.1, decide_eq_true hol.2] at h1
          cases h1
      have htlow : t ≤ low := by omega
      -- the stand
      have hS0 : ∀ c, c < 64 → (lbt (x &&& -x) c = true ↔ c = low) := by
        intro c hc
        rw [lbt_low x hc]
        constructor
        · rintro ⟨h1, h2⟩
          by_cases e : c = low
          · exact e
          · by_cases e2 : c < low
            · rw [hmin c e2] at h1; cases h1
            · have := h2 low (by omega)
              rw [show lbt x low = true from w1] at this; cases this
        · intro e
          rw [e]
          exact ⟨w1, hmin⟩
      have sound : ∀ k c, c < 64 → lbt (fl (x &&& -x) x k) c = true → o c = true ∧ st0 o c = low := by
        intro k
        induction k with
        | zero =>
          intro c hc h
          have := (hS0 c hc).mp h
          rw [this]
          exact ⟨hol.1, hst⟩
        | succ k ihk =>
          intro c hc h
          rcases (flS_bit _ x hc).mp h with h | ⟨h1, y, hy, h2, h3⟩
          · exact ihk c hc h
          · obtain ⟨p1, p2⟩ := ihk y hy h2
            have h4 := hx c hc
            rw [h1] at h4
            simp -implicitDefEqProofs only [Bool.true_eq, Bool.and_eq_true, decide_eq_true_eq] at h4
            exact ⟨h4.1, by rw [← p2]; exact (F y c hy hc p1 h4.1 h3).symm⟩
      have closed := grow (S := fun k c => lbt (fl (x &&& -x) x k) c) (w := fun c => lbt x c) (fun k c hc => flS_bit _ x hc) hlow64 ((hS0 low hlow64).mpr rfl)
      have keep : ∀ k, lbt (fl (x &&& -x) x k) low = true := by
        intro k
        induction k with
        | zero => exact (hS0 low hlow64).mpr rfl
        | succ k ihk => exact (flS_bit _ x hlow64).mpr (.inl ihk)
      have hS : ∀ c, c < 64 → (lbt (fl (x &&& -x) x 64) c = true ↔ o c = true ∧ st0 o c = low) := by
        intro c hc
        refine ⟨sound 64 c hc, fun h => ?_⟩
        obtain ⟨a1, a2, a3⟩ := L c hc h.1
        rw [h.2] at a3
        have := a3 (fun y => y < 64 ∧ o y = true ∧ st0 o y = low ∧ lbt (fl (x &&& -x) x 64) y = true) ⟨hlow64, hol.1, hst, keep 64⟩ (fun y y' hy hy' oy' n => by
          have e : st0 o y' = low := by rw [← hy.2.2.1]; exact (F y y' hy.1 hy' hy.2.1 oy' n).symm
          refine ⟨hy', oy', e, closed y y' hy.1 hy' hy.2.2.2 ?_ n⟩
          show lbt x y' = true
          rw [hx y' hy', oy', e, decide_eq_true htlow]; rfl)
        exact this.2.2.2
      have hpop : pop (fl (x &&& -x) x 64) = sz o (st0 o) low 64 := cnt_cg' 64 (fun c hc => hS c hc)
      generalize hfl : fl (x &&& -x) x 64 = S at *
      have nomid : ∀ c, t ≤ c → c < t + (low - t) → ¬ (o c = true ∧ st0 o c = c) := by
        rintro c h1 h2 ⟨h3, h4⟩
        have := hmin c (by omega)
        rw [hx c (by omega), h3, h4, decide_eq_true h1] at this
        cases this
      have ct := cnt_tail (p := fun c => o c = true ∧ st0 o c = c) t (low - t) nomid
      have mt := mgR_tail (o := o) (st := st0 o) t (low - t) nomid
      rw [show t + (low - t) = low by omega] at ct mt
      have ih1 := fun x tl => ih (64 - (low + 1)) (by omega) (low + 1) x tl (by omega)
      have c1 : cnt (fun c => o c = true ∧ st0 o c = c) (low + 1) = cnt (fun c => o c = true ∧ st0 o c = c) t + 1 := by
        show cnt (fun c => o c = true ∧ st0 o c = c) low + _ = _
        rw [ct, if_pos ⟨hol.1, hst⟩]
      have m1 : mgR o (st0 o) (low + 1) = max (mgR o (st0 o) t) (sz o (st0 o) low 64) := by
        show (if o low = true ∧ st0 o low = low then _ else _) = _
        rw [if_pos ⟨hol.1, hst⟩, mt]
      rw [c1, m1] at ih1
      have f1 : (cnt (fun c => o c = true ∧ st0 o c = c) t : Int) < 64 := by omega
      have f2 := wr_s (show cnt (fun c => o c = true ∧ st0 o c = c) t < 1000000 by omega)
      have f3 : max (mgR o (st0 o) t : Int) (sz o (st0 o) low 64 : Int) = ((max (mgR o (st0 o) t) (sz o (st0 o) low 64) : Nat) : Int) := by clear f2; omega
      have h0' : ((lg_cmp x (Int64.ofInt 0)).toInt = 0) = False := eq_false h0
      simp -implicitDefEqProofs only [lay_n, lay_i, lay_a, lay_l, x_nil, x_iconst, x_lconst, x_ldc, x_iload, x_aload, x_lload, x_istore, x_astore, x_lstore, x_iinc, x_iadd, x_isub, x_imul, x_idiv, x_irem, x_ineg, x_iand, x_ior, x_ixor, x_ishl, x_ishr, x_iushr, x_i2b, x_i2c, x_i2l, x_l2i, x_ladd, x_lsub, x_lmul, x_land, x_lor, x_lxor, x_ldiv, x_lrem, x_lneg, x_lshl, x_lushr, x_lcmp, x_max, x_min, x_abs, x_labs, x_lmax, x_dupI, x_dupA, x_dup2, x_popI, x_popA, x_goto, x_eq, x_ne, x_lt, x_ge, x_gt, x_le, x_ceq, x_cne, x_clt, x_cge, x_cgt, x_cle, x_sw, x_getI, x_getR, x_putI, x_putZ, x_putR, x_new, x_newI, x_newC, x_newL, x_anew, x_multi, x_alen, x_iald, x_cald, x_bald, x_lald, x_aald, x_iast, x_cast, x_last, x_aast, x_copy, x_obj, x_call, x_callL, x_iret, x_zret, x_cret, x_bret, x_lret, x_ret, ldI_i, ldA_a, ldL_l, nth_0, nth_s, sto_n0, sto_ns, sto_0, sto_i, sto_a, sto_l0, sto_ls, psh_t, psh_f, spl, splL, sh4, rcv, swK, stoL, clr, reduceIte, Int.reduceEq, Int.reduceLT, Int.reduceLE, Int.reduceAdd, Int.reduceSub, Int.reduceNeg, or_true, true_or, or_false, false_or, false_and, and_false, not_false_eq_true, not_true_eq_false, ne_eq, Nat.reduceDiv, Nat.reduceMod, Nat.reduceAdd, Nat.reduceMul, Nat.reduceBEq, Int.reduceToNat, Int.toNat_natCast, Nat.reduceEqDiff, Nat.reduceLT, Nat.reduceLeDiff, beq_self_eq_true, beq_iff_eq, true_and, and_true, Bool.false_eq_true, ite_self, Int.reduceTMod, Int.reduceTDiv, List.tail_cons, List.cons_append, List.nil_append, Nat.zero_add, g_104_0, g_104_29, g_104_70, g_104_141, g_104_150, g_104_152, f1, h0', e_fl, hfl, stoL_t, e_lbc, hpop, f2, f3]
      refine ih1 _ _ (fun c hc => ?_)
      rw [lbt_and, lbt_not S hc, hx c hc]
      by_cases oc : o c = true
      · rw [oc, Bool.true_and, Bool.true_and]
        by_cases e : st0 o c = low
        · rw [(hS c hc).mpr ⟨oc, e⟩, e, decide_eq_false (show ¬ low + 1 ≤ low by clear f2; omega)]
          simp
        · have hns : lbt S c = false := by
            cases hh : lbt S c with
            | false => rfl
            | true => exact absurd ((hS c hc).mp hh).2 e
          rw [hns, Bool.not_false, Bool.and_true]
          by_cases e2 : t ≤ st0 o c
          · have : low ≤ st0 o c := by
              by_cases e3 : low ≤ st0 o c
              · exact e3
              · obtain ⟨a1, a2, a3⟩ := L c hc oc
                have := hmin (st0 o c) (by clear f2; omega)
                rw [hx _ (by clear f2; omega), a2, idem c hc oc, decide_eq_true e2] at this
                cases this
            rw [decide_eq_true e2, decide_eq_true (show low + 1 ≤ st0 o c by clear f2; omega)]
          · rw [decide_eq_false e2, decide_eq_false (show ¬ low + 1 ≤ st0 o c by clear f2; omega)]
      · have : o c = false := by simpa using oc
        rw [this]
        rfl
theorem e_stands (hz : Lay z) (ho : ∀ c, c < 64 → v 19 c = if o c = true then 1 else 0) {what : Int} (hQ : Q z v (.inl (standsR o what))) : EvM TB (d + 3) 103 z v [.inr (.inl 16), .inl what] Q := by
  rw [e_ev]
  simp -implicitDefEqProofs only [lay_n, lay_i, lay_a, lay_l, x_nil, x_iconst, x_lconst, x_ldc, x_iload, x_aload, x_lload, x_istore, x_astore, x_lstore, x_iinc, x_iadd, x_isub, x_imul, x_idiv, x_irem, x_ineg, x_iand, x_ior, x_ixor, x_ishl, x_ishr, x_iushr, x_i2b, x_i2c, x_i2l, x_l2i, x_ladd, x_lsub, x_lmul, x_land, x_lor, x_lxor, x_ldiv, x_lrem, x_lneg, x_lshl, x_lushr, x_lcmp, x_max, x_min, x_abs, x_labs, x_lmax, x_dupI, x_dupA, x_dup2, x_popI, x_popA, x_goto, x_eq, x_ne, x_lt, x_ge, x_gt, x_le, x_ceq, x_cne, x_clt, x_cge, x_cgt, x_cle, x_sw, x_getI, x_getR, x_putI, x_putZ, x_putR, x_new, x_newI, x_newC, x_newL, x_anew, x_multi, x_alen, x_iald, x_cald, x_bald, x_lald, x_aald, x_iast, x_cast, x_last, x_aast, x_copy, x_obj, x_call, x_callL, x_iret, x_zret, x_cret, x_bret, x_lret, x_ret, ldI_i, ldA_a, ldL_l, nth_0, nth_s, sto_n0, sto_ns, sto_0, sto_i, sto_a, sto_l0, sto_ls, psh_t, psh_f, spl, splL, sh4, rcv, swK, stoL, clr, reduceIte, Int.reduceEq, Int.reduceLT, Int.reduceLE, Int.reduceAdd, Int.reduceSub, Int.reduceNeg, or_true, true_or, or_false, false_or, false_and, and_false, not_false_eq_true, not_true_eq_false, ne_eq, Nat.reduceDiv, Nat.reduceMod, Nat.reduceAdd, Nat.reduceMul, Nat.reduceBEq, Int.reduceToNat, Int.toNat_natCast, Nat.reduceEqDiff, Nat.reduceLT, Nat.reduceLeDiff, beq_self_eq_true, beq_iff_eq, true_and, and_true, Bool.false_eq_true, ite_self, Int.reduceTMod, Int.reduceTDiv, List.tail_cons, List.cons_append, List.nil_append, Nat.zero_add, g_103_0, g_103_26, g_103_27, e_within, if_01, hh_1 hz, hc_1 hz, hh_2 hz, hc_2 hz, hh_3 hz, hr_3_0 hz, hh_4 hz, hr_4_0 hz, hh_5 hz, hr_5_0 hz, hh_6 hz, hc_6 hz, hh_7 hz, hc_7 hz, hh_8 hz, hc_8 hz, hh_10 hz, hh_16 hz, hr_16_0 hz, hr_16_1 hz, hr_16_3 hz, hr_16_4 hz, hr_16_7 hz, hr_16_9 hz, hr_16_10 hz, hh_17 hz, hr_17_0 hz, hr_17_1 hz, hr_17_2 hz, hr_17_3 hz, hr_17_4 hz, hr_17_6 hz, hh_18 hz, hr_18_1 hz, hr_18_2 hz, hr_18_3 hz, hr_18_4 hz, hr_18_5 hz, hr_18_6 hz, hr_18_7 hz, hr_18_8 hz, hh_19 hz, hc_19 hz, hh_20 hz, hc_20 hz, hh_21 hz, hc_21 hz, hh_22 hz, hc_22 hz, hh_23 hz, hc_23 hz, hh_24 hz, hc_24 hz, hh_25 hz, hc_25 hz, hh_26 hz, hc_26 hz, hh_27 hz, hr_27_0 hz, hr_27_1 hz, hr_27_2 hz, hr_27_3 hz, hr_27_4 hz, hr_27_7 hz, hr_27_8 hz, hh_28 hz, hc_28 hz, hh_29 hz, hc_29 hz, hh_30 hz, hc_30 hz, hh_31 hz, hc_31 hz, hh_32 hz, hc_32 hz, hh_33 hz, hc_33 hz, hh_34 hz, hc_34 hz, hh_35 hz, hr_35_0 hz, hr_35_1 hz, hr_35_2 hz, hr_35_3 hz, hr_35_4 hz, hr_35_5 hz, hh_36 hz, hc_36 hz, hh_37 hz, hc_37 hz, hh_38 hz, hc_38 hz, hh_39 hz, hc_39 hz, hh_40 hz, hc_40 hz, hh_41 hz, hc_41 hz, hh_42 hz, hr_42_0 hz, hr_42_1 hz, hr_42_2 hz, hr_42_3 hz, hr_42_4 hz, hr_42_5 hz, hh_43 hz, hc_43 hz, hh_44 hz, hc_44 hz, hh_45 hz, hc_45 hz, hh_46 hz, hc_46 hz, hh_47 hz, hc_47 hz, hh_48 hz, hc_48 hz, hh_49 hz, hr_49_0 hz, hr_49_1 hz, hr_49_2 hz, hr_49_3 hz, hr_49_4 hz, hr_49_5 hz, hh_50 hz, hc_50 hz, hh_51 hz, hr_51_0 hz, hh_52 hz, hc_52 hz, hh_53 hz, hr_53_0 hz, hh_54 hz, hc_54 hz, hh_55 hz, hr_55_0 hz, hh_56 hz, hc_56 hz, hh_57 hz, hr_57_0 hz, hh_58 hz, hc_58 hz, hh_59 hz, hr_59_0 hz, hh_60 hz, hc_60 hz, hr_60_0 hz, hr_60_1 hz, hr_60_2 hz, hr_60_3 hz, hr_60_4 hz, hr_60_5 hz, hr_60_6 hz, hr_60_7 hz, hh_61 hz, hc_61 hz, hh_62 hz, hc_62 hz, hh_63 hz, hc_63 hz, hh_64 hz, hc_64 hz, hh_65 hz, hc_65 hz, hh_66 hz, hc_66 hz, hh_67 hz, hc_67 hz, hh_68 hz, hc_68 hz, hh_69 hz, hc_69 hz, hh_70 hz, hr_70_0 hz, hr_70_1 hz, hr_70_2 hz, hr_70_3 hz, hr_70_4 hz, hr_70_6 hz, hh_123 hz, hr_123_1 hz, hr_123_2 hz, hr_123_3 hz, hr_123_4 hz, hr_123_5 hz, hr_123_6 hz, hr_123_7 hz, hr_123_8 hz, hh_124 hz, hc_124 hz, hh_125 hz, hc_125 hz, hh_126 hz, hc_126 hz, hh_127 hz, hc_127 hz, hh_128 hz, hc_128 hz, hh_129 hz, hc_129 hz, hh_130 hz, hc_130 hz, hh_131 hz, hc_131 hz, hh_132 hz, hc_132 hz, hr_132_0 hz, hr_132_1 hz, hr_132_2 hz, hr_132_3 hz, hr_132_4 hz, hr_132_5 hz, hh_133 hz, hc_133 hz, hh_134 hz, hr_134_0 hz, hr_134_1 hz, hr_134_2 hz, hh_135 hz, hr_135_0 hz, hr_135_1 hz, hh_136 hz, hc_136 hz, hh_137 hz, hc_137 hz, hh_138 hz, hr_138_0 hz, hr_138_1 hz, hr_138_2 hz, hr_138_3 hz, hr_138_4 hz, hr_138_7 hz, hr_138_8 hz, hh_139 hz, hc_139 hz, hh_140 hz, hc_140 hz, hh_141 hz, hc_141 hz, hh_142 hz, hc_142 hz, hh_143 hz, hc_143 hz, hh_144 hz, hc_144 hz, hh_145 hz, hc_145 hz, hh_146 hz, hc_146 hz, hh_147 hz, hr_147_0 hz, hr_147_1 hz, hr_147_2 hz, hr_147_3 hz, hr_147_4 hz, hr_147_5 hz, hh_148 hz, hc_148 hz, hh_149 hz, hc_149 hz, hh_150 hz, hc_150 hz, hh_151 hz, hc_151 hz, hh_152 hz, hc_152 hz, hh_153 hz, hc_153 hz, hh_154 hz, hr_154_1 hz, hr_154_2 hz, hr_154_3 hz, hr_154_4 hz, hr_154_5 hz, hr_154_6 hz, hr_154_7 hz, hr_154_8 hz, hh_155 hz, hc_155 hz, hh_156 hz, hc_156 hz, hh_157 hz, hc_157 hz, hh_158 hz, hc_158 hz, hh_159 hz, hc_159 hz, hh_160 hz, hc_160 hz, hh_161 hz, hc_161 hz, hh_162 hz, hc_162 hz, hh_163 hz, hr_163_1 hz, hr_163_2 hz, hr_163_3 hz, hr_163_4 hz, hr_163_5 hz, hr_163_6 hz, hr_163_7 hz, hr_163_8 hz, hh_164 hz, hc_164 hz, hh_165 hz, hc_165 hz, hh_166 hz, hc_166 hz, hh_167 hz, hc_167 hz, hh_168 hz, hc_168 hz, hh_169 hz, hc_169 hz, hh_170 hz, hc_170 hz, hh_171 hz, hc_171 hz, hh_172 hz, hr_172_1 hz, hr_172_2 hz, hr_172_3 hz, hr_172_4 hz, hr_172_5 hz, hr_172_6 hz, hr_172_7 hz, hr_172_8 hz, hh_173 hz, hc_173 hz, hh_174 hz, hc_174 hz, hh_175 hz, hc_175 hz, hh_176 hz, hc_176 hz, hh_177 hz, hc_177 hz, hh_178 hz, hc_178 hz, hh_179 hz, hc_179 hz, hh_180 hz, hc_180 hz, hh_181 hz, hr_181_1 hz, hr_181_2 hz, hr_181_3 hz, hr_181_4 hz, hr_181_5 hz, hr_181_6 hz, hr_181_7 hz, hr_181_8 hz, hh_182 hz, hc_182 hz, hh_183 hz, hc_183 hz, hh_184 hz, hc_184 hz, hh_185 hz, hc_185 hz, hh_186 hz, hc_186 hz, hh_187 hz, hc_187 hz, hh_188 hz, hc_188 hz, hh_189 hz, hc_189 hz, hh_190 hz, hr_190_1 hz, hr_190_2 hz, hr_190_3 hz, hr_190_4 hz, hr_190_5 hz, hr_190_6 hz, hr_190_7 hz, hr_190_8 hz, hh_191 hz, hc_191 hz, hh_192 hz, hc_192 hz, hh_193 hz, hc_193 hz, hh_194 hz, hc_194 hz, hh_195 hz, hc_195 hz, hh_196 hz, hc_196 hz, hh_197 hz, hc_197 hz, hh_198 hz, hc_198 hz, hh_199 hz, hr_199_1 hz, hr_199_2 hz, hr_199_3 hz, hr_199_4 hz, hr_199_5 hz, hr_199_6 hz, hr_199_7 hz, hr_199_8 hz, hh_200 hz, hc_200 hz, hh_201 hz, hc_201 hz, hh_202 hz, hc_202 hz, hh_203 hz, hc_203 hz, hh_204 hz, hc_204 hz, hh_205 hz, hc_205 hz, hh_206 hz, hc_206 hz, hh_207 hz, hc_207 hz]
  unfold standsR at hQ
  by_cases h1 : 0 ≤ what ∧ what ≤ 2
  · rw [if_pos h1]
    rw [if_pos h1] at hQ
    rw [e_ev]
    simp -implicitDefEqProofs only [lay_n, lay_i, lay_a, lay_l, x_nil, x_iconst, x_lconst, x_ldc, x_iload, x_aload, x_lload, x_istore, x_astore, x_lstore, x_iinc, x_iadd, x_isub, x_imul, x_idiv, x_irem, x_ineg, x_iand, x_ior, x_ixor, x_ishl, x_ishr, x_iushr, x_i2b, x_i2c, x_i2l, x_l2i, x_ladd, x_lsub, x_lmul, x_land, x_lor, x_lxor, x_ldiv, x_lrem, x_lneg, x_lshl, x_lushr, x_lcmp, x_max, x_min, x_abs, x_labs, x_lmax, x_dupI, x_dupA, x_dup2, x_popI, x_popA, x_goto, x_eq, x_ne, x_lt, x_ge, x_gt, x_le, x_ceq, x_cne, x_clt, x_cge, x_cgt, x_cle, x_sw, x_getI, x_getR, x_putI, x_putZ, x_putR, x_new, x_newI, x_newC, x_newL, x_anew, x_multi, x_alen, x_iald, x_cald, x_bald, x_lald, x_aald, x_iast, x_cast, x_last, x_aast, x_copy, x_obj, x_call, x_callL, x_iret, x_zret, x_cret, x_bret, x_lret, x_ret, ldI_i, ldA_a, ldL_l, nth_0, nth_s, sto_n0, sto_ns, sto_0, sto_i, sto_a, sto_l0, sto_ls, psh_t, psh_f, spl, splL, sh4, rcv, swK, stoL, clr, reduceIte, Int.reduceEq, Int.reduceLT, Int.reduceLE, Int.reduceAdd, Int.reduceSub, Int.reduceNeg, or_true, true_or, or_false, false_or, false_and, and_false, not_false_eq_true, not_true_eq_false, ne_eq, Nat.reduceDiv, Nat.reduceMod, Nat.reduceAdd, Nat.reduceMul, Nat.reduceBEq, Int.reduceToNat, Int.toNat_natCast, Nat.reduceEqDiff, Nat.reduceLT, Nat.reduceLeDiff, beq_self_eq_true, beq_iff_eq, true_and, and_true, Bool.false_eq_true, ite_self, Int.reduceTMod, Int.reduceTDiv, List.tail_cons, List.cons_append, List.nil_append, Nat.zero_add, g_104_0]
    refine e_oakL (o := o) (hh_19 hz) (hc_19 hz) ho (fun x k t hx => ?_) 64 0 _ [] (by omega) (fun c hc => ?_)
    · by_cases h2 : what = 2
      · rw [if_pos h2] at hQ
        have pV : pop (x &&& x <<< ((Int32.ofInt 8).toInt64 &&& 63)) = sdV o := cnt_cg' 64 (fun c hc => by
          rw [lbt_and, lbt_l8 x hc, hx c hc]
          simp -implicitDefEqProofs only [Bool.and_eq_true, decide_eq_true_eq]
          constructor
          · rintro ⟨a, b, e⟩; rw [hx _ (by omega)] at e; exact ⟨a, b, e⟩
          · rintro ⟨a, b, e⟩; rw [hx _ (by omega)]; exact ⟨a, b, e⟩)
        have pH : pop (x &&& x <<< ((Int32.ofInt 1).toInt64 &&& 63) &&& Int64.ofInt (-72340172838076674)) = sdH o := cnt_cg' 64 (fun c hc => by
          rw [lbt_and, lbt_and, lbt_l1 x hc, hx c hc, (edge_s hc).1]
          have b0 : ∀ x y : Nat, (!Nat.beq x y) = true ↔ x ≠ y := by
            intro x y
            cases h : Nat.beq x y with
            | true => simp [Nat.eq_of_beq_eq_true h]
            | false => simp [Nat.ne_of_beq_eq_false h]
          simp -implicitDefEqProofs only [Bool.and_eq_true, decide_eq_true_eq, b0]
          constructor
          · rintro ⟨⟨a, b, e⟩, f⟩; rw [hx _ (by omega)] at e; exact ⟨a, ⟨b, e⟩, f⟩
          · rintro ⟨a, ⟨b, e⟩, f⟩; rw [hx _ (by omega)]; exact ⟨⟨a, b, e⟩, f⟩)
        have pN : pop x = sdN o := cnt_cg' 64 (fun c hc => by rw [hx c hc])
        have bV : sdV o ≤ 64 := cnt_le _ 64
        have bH : sdH o ≤ 64 := cnt_le _ 64
        have bN : sdN o ≤ 64 := cnt_le _ 64
        simp -implicitDefEqProofs only [lay_n, lay_i, lay_a, lay_l, x_nil, x_iconst, x_lconst, x_ldc, x_iload, x_aload, x_lload, x_istore, x_astore, x_lstore, x_iinc, x_iadd, x_isub, x_imul, x_idiv, x_irem, x_ineg, x_iand, x_ior, x_ixor, x_ishl, x_ishr, x_iushr, x_i2b, x_i2c, x_i2l, x_l2i, x_ladd, x_lsub, x_lmul, x_land, x_lor, x_lxor, x_ldiv, x_lrem, x_lneg, x_lshl, x_lushr, x_lcmp, x_max, x_min, x_abs, x_labs, x_lmax, x_dupI, x_dupA, x_dup2, x_popI, x_popA, x_goto, x_eq, x_ne, x_lt, x_ge, x_gt, x_le, x_ceq, x_cne, x_clt, x_cge, x_cgt, x_cle, x_sw, x_getI, x_getR, x_putI, x_putZ, x_putR, x_new, x_newI, x_newC, x_newL, x_anew, x_multi, x_alen, x_iald, x_cald, x_bald, x_lald, x_aald, x_iast, x_cast, x_last, x_aast, x_copy, x_obj, x_call, x_callL, x_iret, x_zret, x_cret, x_bret, x_lret, x_ret, ldI_i, ldA_a, ldL_l, nth_0, nth_s, sto_n0, sto_ns, sto_0, sto_i, sto_a, sto_l0, sto_ls, psh_t, psh_f, spl, splL, sh4, rcv, swK, stoL, clr, reduceIte, Int.reduceEq, Int.reduceLT, Int.reduceLE, Int.reduceAdd, Int.reduceSub, Int.reduceNeg, or_true, true_or, or_false, false_or, false_and, and_false, not_false_eq_true, not_true_eq_false, ne_eq, Nat.reduceDiv, Nat.reduceMod, Nat.reduceAdd, Nat.reduceMul, Nat.reduceBEq, Int.reduceToNat, Int.toNat_natCast, Nat.reduceEqDiff, Nat.reduceLT, Nat.reduceLeDiff, beq_self_eq_true, beq_iff_eq, true_and, and_true, Bool.false_eq_true, ite_self, Int.reduceTMod, Int.reduceTDiv, List.tail_cons, List.cons_append, List.nil_append, Nat.zero_add, g_104_0, g_104_29, g_104_70, g_104_141, g_104_150, g_104_152, h2, e_lbc, pV, pH, pN]
        rw [wr_p (k := (sdV o : Int) + (sdH o : Int)) (by omega) (by omega), wr_p (k := 4 * (sdN o : Int)) (by omega) (by omega), wr_p (k := 2 * ((sdV o : Int) + (sdH o : Int))) (by omega) (by omega), wr_p (by omega) (by omega)]
        exact hQ
      · rw [if_neg h2] at hQ
        simp -implicitDefEqProofs only [lay_n, lay_i, lay_a, lay_l, x_nil, x_iconst, x_lconst, x_ldc, x_iload, x_aload, x_lload, x_istore, x_astore, x_lstore, x_iinc, x_iadd, x_isub, x_imul, x_idiv, x_irem, x_ineg, x_iand, x_ior, x_ixor, x_ishl, x_ishr, x_iushr, x_i2b, x_i2c, x_i2l, x_l2i, x_ladd, x_lsub, x_lmul, x_land, x_lor, x_lxor, x_ldiv, x_lrem, x_lneg, x_lshl, x_lushr, x_lcmp, x_max, x_min, x_abs, x_labs, x_lmax, x_dupI, x_dupA, x_dup2, x_popI, x_popA, x_goto, x_eq, x_ne, x_lt, x_ge, x_gt, x_le, x_ceq, x_cne, x_clt, x_cge, x_cgt, x_cle, x_sw, x_getI, x_getR, x_putI, x_putZ, x_putR, x_new, x_newI, x_newC, x_newL, x_anew, x_multi, x_alen, x_iald, x_cald, x_bald, x_lald, x_aald, x_iast, x_cast, x_last, x_aast, x_copy, x_obj, x_call, x_callL, x_iret, x_zret, x_cret, x_bret, x_lret, x_ret, ldI_i, ldA_a, ldL_l, nth_0, nth_s, sto_n0, sto_ns, sto_0, sto_i, sto_a, sto_l0, sto_ls, psh_t, psh_f, spl, splL, sh4, rcv, swK, stoL, clr, reduceIte, Int.reduceEq, Int.reduceLT, Int.reduceLE, Int.reduceAdd, Int.reduceSub, Int.reduceNeg, or_true, true_or, or_false, false_or, false_and, and_false, not_false_eq_true, not_true_eq_false, ne_eq, Nat.reduceDiv, Nat.reduceMod, Nat.reduceAdd, Nat.reduceMul, Nat.reduceBEq, Int.reduceToNat, Int.toNat_natCast, Nat.reduceEqDiff, Nat.reduceLT, Nat.reduceLeDiff, beq_self_eq_true, beq_iff_eq, true_and, and_true, Bool.false_eq_true, ite_self, Int.reduceTMod, Int.reduceTDiv, List.tail_cons, List.cons_append, List.nil_append, Nat.zero_add, g_104_29, g_104_70, h2, stoL_t, sto_t]
        refine Eq.mpr (e_stL (o := o) 64 0 x _ (by omega) (fun c hc => ?_)) ?_
        · rw [hx c hc, decide_eq_true (Nat.zero_le _), Bool.and_true]
        · simp -implicitDefEqProofs only [lay_n, lay_i, lay_a, lay_l, x_nil, x_iconst, x_lconst, x_ldc, x_iload, x_aload, x_lload, x_istore, x_astore, x_lstore, x_iinc, x_iadd, x_isub, x_imul, x_idiv, x_irem, x_ineg, x_iand, x_ior, x_ixor, x_ishl, x_ishr, x_iushr, x_i2b, x_i2c, x_i2l, x_l2i, x_ladd, x_lsub, x_lmul, x_land, x_lor, x_lxor, x_ldiv, x_lrem, x_lneg, x_lshl, x_lushr, x_lcmp, x_max, x_min, x_abs, x_labs, x_lmax, x_dupI, x_dupA, x_dup2, x_popI, x_popA, x_goto, x_eq, x_ne, x_lt, x_ge, x_gt, x_le, x_ceq, x_cne, x_clt, x_cge, x_cgt, x_cle, x_sw, x_getI, x_getR, x_putI, x_putZ, x_putR, x_new, x_newI, x_newC, x_newL, x_anew, x_multi, x_alen, x_iald, x_cald, x_bald, x_lald, x_aald, x_iast, x_cast, x_last, x_aast, x_copy, x_obj, x_call, x_callL, x_iret, x_zret, x_cret, x_bret, x_lret, x_ret, ldI_i, ldA_a, ldL_l, nth_0, nth_s, sto_n0, sto_ns, sto_0, sto_i, sto_a, sto_l0, sto_ls, psh_t, psh_f, spl, splL, sh4, rcv, swK, stoL, clr, reduceIte, Int.reduceEq, Int.reduceLT, Int.reduceLE, Int.reduceAdd, Int.reduceSub, Int.reduceNeg, or_true, true_or, or_false, false_or, false_and, and_false, not_false_eq_true, not_true_eq_false, ne_eq, Nat.reduceDiv, Nat.reduceMod, Nat.reduceAdd, Nat.reduceMul, Nat.reduceBEq, Int.reduceToNat, Int.toNat_natCast, Nat.reduceEqDiff, Nat.reduceLT, Nat.reduceLeDiff, beq_self_eq_true, beq_iff_eq, true_and, and_true, Bool.false_eq_true, ite_self, Int.reduceTMod, Int.reduceTDiv, List.tail_cons, List.cons_append, List.nil_append, Nat.zero_add, g_103_0, g_103_26, g_103_27]
          exact hQ
    · rw [decide_eq_false (by omega), Bool.false_and]
      show (0#64).getLsbD c = false
      simp
  · rw [if_neg h1]
    rw [if_neg h1] at hQ
    exact hQ
end SU
