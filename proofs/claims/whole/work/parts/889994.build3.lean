/-! ===== what the constructors build: the whole object, the model; the start ===== -/
set_option maxHeartbeats 8000000
set_option maxRecDepth 8000
def gw0 : List Cd := wholeT 17 ++ wholeT 70 ++ sceneT 123 1 ++ [(104, 6, [], [])] ++ [(101, 400, [], [])] ++ readT 134 ++ linesT 147
def gwO : Cd := (0, 0, [(10, 147), (9, 134), (7, 133), (4, 132), (3, 123), (1, 70), (0, 17)], [(12, -1)])
def kRf : List (Nat × Nat) := [(0, 154), (1, 163), (2, 172), (3, 181), (4, 190), (5, 199)]
def gwT : List Cd := gwO :: (wholeT 17 ++ wholeT 70 ++ sceneT 123 1 ++ [(104, 6, kRf, [])] ++ [(101, 400, [], [])] ++ readT 134 ++ linesT 147 ++ sceneT 154 0 ++ sceneT 163 0 ++ sceneT 172 0 ++ sceneT 181 0 ++ sceneT 190 0 ++ sceneT 199 0)
section KG
variable {d : Nat} {z : xZ} {v : xV} {Q : xZ → xV → xv → Prop}
def KLp (i : Nat) (zb : xZ) (vb : xV) (z : xZ) (v : xV) : Prop := zn z = 154 + 9 * i ∧ zs z = zs zb + 257 * i ∧ (∀ a, a < 154 → zh z a = zh zb a ∧ zl z a = zl zb a ∧ (a ≠ 132 → zr z a = zr zb a) ∧ v a = vb a) ∧ (∀ k, zr z 132 k = if k < i then 154 + 9 * k else 0) ∧ (∀ j, j < i → Seg z v (154 + 9 * j) (sceneT (154 + 9 * j) 0))
theorem KLp.hn {i : Nat} {zb : xZ} {vb : xV} {z : xZ} {v : xV} (h : KLp i zb vb z v) : zn z = 154 + 9 * i := h.1
theorem KLp.hs {i : Nat} {zb : xZ} {vb : xV} {z : xZ} {v : xV} (h : KLp i zb vb z v) : zs z = zs zb + 257 * i := h.2.1
theorem KLp.fr {i : Nat} {zb : xZ} {vb : xV} {z : xZ} {v : xV} (h : KLp i zb vb z v) : ∀ a, a < 154 → zh z a = zh zb a ∧ zl z a = zl zb a ∧ (a ≠ 132 → zr z a = zr zb a) ∧ v a = vb a := h.2.2.1
theorem KLp.rf {i : Nat} {zb : xZ} {vb : xV} {z : xZ} {v : xV} (h : KLp i zb vb z v) : ∀ k, zr z 132 k = if k < i then 154 + 9 * k else 0 := h.2.2.2.1
theorem KLp.sg {i : Nat} {zb : xZ} {vb : xV} {z : xZ} {v : xV} (h : KLp i zb vb z v) : ∀ j, j < i → Seg z v (154 + 9 * j) (sceneT (154 + 9 * j) 0) := h.2.2.2.2
theorem len_sc (b : Nat) (th : Int) : (sceneT b th).length = 9 := rfl
theorem KL_s {i : Nat} {zb z z2 : xZ} {vb v v2 : xV} (h : KLp i zb vb z v) (c1 : zn z2 = 154 + 9 * i + 9) (c2 : zs z2 = zs (nwZ z 6 0 15) + 242) (c3 : Fr (154 + 9 * i) (nwZ z 6 0 15) (nwV v (154 + 9 * i)) z2 v2) (c4 : Seg z2 v2 (154 + 9 * i) (sceneT (154 + 9 * i) 0)) : KLp (i + 1) zb vb (upR z2 132 i (154 + 9 * i)) v2 := by
  have e : z.1 = 154 + 9 * i := h.hn
  have off : ∀ a, a < 154 + 9 * i → zh z2 a = zh z a ∧ zl z2 a = zl z a ∧ zr z2 a = zr z a ∧ v2 a = v a := fun a ha => by
    obtain ⟨q1, q2, q3, q4⟩ := c3 a ha
    obtain ⟨r1, r2, r3, r4⟩ := nw_off (z := z) (v := v) (t := 6) (l := 0) (sl := 15) (a := a) (by unfold zn; omega)
    rw [show zn z = 154 + 9 * i from e] at r4
    exact ⟨q1.trans r1, q2.trans r2, q3.trans r3, q4.trans r4⟩
  have upo : ∀ a, a ≠ 132 → zr (upR z2 132 i (154 + 9 * i)) a = zr z2 a := fun a ha => funext fun k => if_neg (fun q => ha q.1)
  refine ⟨?_, ?_, fun a ha => ?_, fun k => ?_, fun j hj => ?_⟩
  · show zn z2 = _
    omega
  · show zs z2 = _
    rw [c2]
    show z.2.1 + 15 + 242 = _
    have := h.hs
    unfold zs at this ⊢
    omega
  · obtain ⟨q1, q2, q3, q4⟩ := off a (by omega)
    obtain ⟨r1, r2, r3, r4⟩ := h.fr a ha
    exact ⟨q1.trans r1, q2.trans r2, fun c => (upo a c).trans (q3.trans (r3 c)), q4.trans r4⟩
  · show (if 132 = 132 ∧ k = i then 154 + 9 * i else zr z2 132 k) = _
    by_cases c : k = i
    · rw [if_pos ⟨rfl, c⟩, if_pos (by omega), c]
    · rw [if_neg (fun q => c q.2), (off 132 (by omega)).2.2.1, h.rf k]
      by_cases c5 : k < i
      · rw [if_pos c5, if_pos (by omega)]
      · rw [if_neg c5, if_neg (by omega)]
  · by_cases c : j = i
    · subst c
      exact Seg_fr (z := z2) (v := v2) (z' := upR z2 132 j (154 + 9 * j)) (v' := v2) _ _ (fun x x1 _ => ⟨rfl, rfl, upo x (by omega), rfl⟩) c4
    · refine Seg_fr _ _ (fun x x1 x2 => ?_) (h.sg j (by omega))
      rw [len_sc] at x2
      obtain ⟨q1, q2, q3, q4⟩ := off x (by omega)
      exact ⟨q1, q2, (upo x (by omega)).trans q3, q4⟩
theorem k_loop {zb : xZ} {vb : xV} (f1 : zh zb 16 = 0) (f2 : zr zb 16 4 = 132) (f3 : zh zb 132 = 104) (f4 : zl zb 132 = 6) (hQ : ∀ z v, KLp 6 zb vb z v → Q z v (.inl 0)) : ∀ (m i : Nat) (z : xZ) (v : xV), i + m = 6 → KLp i zb vb z v → xGo (EvM TB (d + 1)) (TB 1) Q 85 [.inr (.inl 16), .inl (i : Int)] [] z v := by
  intro m
  induction m with
  | zero =>
    intro i z v hi h
    obtain rfl : i = 6 := by omega
    have g1 : zh z 16 = 0 := (h.fr 16 (by decide)).1.trans f1
    have g2 : zr z 16 4 = 132 := (congrFun ((h.fr 16 (by decide)).2.2.1 (by decide)) 4).trans f2
    have g3 : zh z 132 = 104 := (h.fr 132 (by decide)).1.trans f3
    have g4 : zl z 132 = 6 := (h.fr 132 (by decide)).2.1.trans f4
    have c0 : ¬ (((6 : Nat) : Int) < ((6 : Nat) : Int)) := by decide
    rw [l_1_85]
    simp -implicitDefEqProofs only [lay_n, lay_i, lay_a, lay_l, x_nil, x_iconst, x_lconst, x_ldc, x_iload, x_aload, x_lload, x_istore, x_astore, x_lstore, x_iinc, x_iadd, x_isub, x_imul, x_idiv, x_irem, x_ineg, x_iand, x_ior, x_ixor, x_ishl, x_ishr, x_iushr, x_i2b, x_i2c, x_i2l, x_l2i, x_ladd, x_lsub, x_lmul, x_land, x_lor, x_lxor, x_ldiv, x_lrem, x_lneg, x_lshl, x_lushr, x_lcmp, x_max, x_min, x_abs, x_labs, x_lmax, x_dupI, x_dupA, x_dup2, x_popI, x_popA, x_goto, x_eq, x_ne, x_lt, x_ge, x_gt, x_le, x_ceq, x_cne, x_clt, x_cge, x_cgt, x_cle, x_sw, x_getI, x_getR, x_putI, x_putZ, x_putR, x_new, x_newI, x_newC, x_newL, x_anew, x_multi, x_alen, x_iald, x_cald, x_bald, x_lald, x_aald, x_iast, x_cast, x_last, x_aast, x_copy, x_obj, x_call, x_callL, x_iret, x_zret, x_cret, x_bret, x_lret, x_ret, ldI_i, ldA_a, ldL_l, nth_0, nth_s, sto_n0, sto_ns, sto_0, sto_i, sto_a, sto_l0, sto_ls, psh_t, psh_f, spl, splL, sh4, rcv, swK, stoL, clr, reduceIte, Int.reduceEq, Int.reduceLT, Int.reduceLE, Int.reduceAdd, Int.reduceSub, Int.reduceNeg, or_true, true_or, or_false, false_or, false_and, and_false, not_false_eq_true, not_true_eq_false, ne_eq, Nat.reduceDiv, Nat.reduceMod, Nat.reduceAdd, Nat.reduceMul, Nat.reduceBEq, Int.reduceToNat, Int.toNat_natCast, Nat.reduceEqDiff, Nat.reduceLT, Nat.reduceLeDiff, beq_self_eq_true, beq_iff_eq, true_and, and_true, Bool.false_eq_true, ite_self, Int.reduceTMod, Int.reduceTDiv, List.tail_cons, List.cons_append, List.nil_append, Nat.zero_add, g1, g2, g3, g4, c0, g_1_114]
    exact hQ z v h
  | succ m ih =>
    intro i z v hi h
    have g1 : zh z 16 = 0 := (h.fr 16 (by decide)).1.trans f1
    have g2 : zr z 16 4 = 132 := (congrFun ((h.fr 16 (by decide)).2.2.1 (by decide)) 4).trans f2
    have g3 : zh z 132 = 104 := (h.fr 132 (by decide)).1.trans f3
    have g4 : zl z 132 = 6 := (h.fr 132 (by decide)).2.1.trans f4
    have c1 : (i : Int) < ((6 : Nat) : Int) := by omega
    have b0 : (0 : Int) ≤ (i : Int) ∧ (i : Int) < ((6 : Nat) : Int) := by omega
    have e : z.1 = 154 + 9 * i := h.hn
    have hc : Cel (nwZ z 6 0 15) (nwV v (154 + 9 * i)) (154 + 9 * i) (6, 0, [], []) := ⟨if_pos e.symm, if_pos e.symm, fun k => if_pos e.symm, fun k => if_pos rfl⟩
    rw [l_1_85]
    simp -implicitDefEqProofs only [lay_n, lay_i, lay_a, lay_l, x_nil, x_iconst, x_lconst, x_ldc, x_iload, x_aload, x_lload, x_istore, x_astore, x_lstore, x_iinc, x_iadd, x_isub, x_imul, x_idiv, x_irem, x_ineg, x_iand, x_ior, x_ixor, x_ishl, x_ishr, x_iushr, x_i2b, x_i2c, x_i2l, x_l2i, x_ladd, x_lsub, x_lmul, x_land, x_lor, x_lxor, x_ldiv, x_lrem, x_lneg, x_lshl, x_lushr, x_lcmp, x_max, x_min, x_abs, x_labs, x_lmax, x_dupI, x_dupA, x_dup2, x_popI, x_popA, x_goto, x_eq, x_ne, x_lt, x_ge, x_gt, x_le, x_ceq, x_cne, x_clt, x_cge, x_cgt, x_cle, x_sw, x_getI, x_getR, x_putI, x_putZ, x_putR, x_newI, x_newC, x_newL, x_anew, x_multi, x_alen, x_iald, x_cald, x_bald, x_lald, x_aald, x_iast, x_cast, x_last, x_copy, x_obj, x_callL, x_iret, x_zret, x_cret, x_bret, x_lret, x_ret, ldI_i, ldA_a, ldL_l, nth_0, nth_s, sto_n0, sto_ns, sto_0, sto_i, sto_a, sto_l0, sto_ls, psh_t, psh_f, spl, splL, sh4, rcv, swK, stoL, clr, reduceIte, Int.reduceEq, Int.reduceLT, Int.reduceLE, Int.reduceAdd, Int.reduceSub, Int.reduceNeg, or_true, true_or, or_false, false_or, false_and, and_false, not_false_eq_true, not_true_eq_false, ne_eq, Nat.reduceDiv, Nat.reduceMod, Nat.reduceAdd, Nat.reduceMul, Nat.reduceBEq, Int.reduceToNat, Int.toNat_natCast, Nat.reduceEqDiff, Nat.reduceLT, Nat.reduceLeDiff, beq_self_eq_true, beq_iff_eq, true_and, and_true, Bool.false_eq_true, ite_self, Int.reduceTMod, Int.reduceTDiv, List.tail_cons, List.cons_append, List.nil_append, Nat.zero_add, g1, g2, g3, g4, c1]
    rw [x_new, e]
    simp -implicitDefEqProofs only [x_dupA, x_iconst]
    refine xb_c2 (kind := 6) (by decide) (by decide) (by decide) hc.1 rfl ?_
    refine k_scene (b := 154 + 9 * i) (.inl rfl) (by show z.1 + 1 = _; omega) hc (fun z2 v2 d1 d2 d3 d4 => ?_)
    have h' := KL_s h d1 d2 d3 d4
    have p1 : zh z2 132 = 104 := (d3 132 (by omega)).1.trans (((nw_off (z := z) (v := v) (t := 6) (l := 0) (sl := 15) (a := 132) (by unfold zn; omega)).1).trans g3)
    have p2 : zl z2 132 = 6 := (d3 132 (by omega)).2.1.trans (((nw_off (z := z) (v := v) (t := 6) (l := 0) (sl := 15) (a := 132) (by unfold zn; omega)).2.1).trans g4)
    have p3 : zh z2 (154 + 9 * i) = 6 := d4.1.1
    have es := wr_s (show i < 1000000 by omega)
    simp -implicitDefEqProofs only [lay_n, lay_i, lay_a, lay_l, x_nil, x_iconst, x_lconst, x_ldc, x_iload, x_aload, x_lload, x_istore, x_astore, x_lstore, x_iinc, x_iadd, x_isub, x_imul, x_idiv, x_irem, x_ineg, x_iand, x_ior, x_ixor, x_ishl, x_ishr, x_iushr, x_i2b, x_i2c, x_i2l, x_l2i, x_ladd, x_lsub, x_lmul, x_land, x_lor, x_lxor, x_ldiv, x_lrem, x_lneg, x_lshl, x_lushr, x_lcmp, x_max, x_min, x_abs, x_labs, x_lmax, x_dupI, x_dupA, x_dup2, x_popI, x_popA, x_goto, x_eq, x_ne, x_lt, x_ge, x_gt, x_le, x_ceq, x_cne, x_clt, x_cge, x_cgt, x_cle, x_sw, x_getI, x_getR, x_putI, x_putZ, x_putR, x_new, x_newI, x_newC, x_newL, x_anew, x_multi, x_alen, x_iald, x_cald, x_bald, x_lald, x_aald, x_iast, x_cast, x_last, x_aast, x_copy, x_obj, x_call, x_callL, x_iret, x_zret, x_cret, x_bret, x_lret, x_ret, ldI_i, ldA_a, ldL_l, nth_0, nth_s, sto_n0, sto_ns, sto_0, sto_i, sto_a, sto_l0, sto_ls, psh_t, psh_f, spl, splL, sh4, rcv, swK, stoL, clr, reduceIte, Int.reduceEq, Int.reduceLT, Int.reduceLE, Int.reduceAdd, Int.reduceSub, Int.reduceNeg, or_true, true_or, or_false, false_or, false_and, and_false, not_false_eq_true, not_true_eq_false, ne_eq, Nat.reduceDiv, Nat.reduceMod, Nat.reduceAdd, Nat.reduceMul, Nat.reduceBEq, Int.reduceToNat, Int.toNat_natCast, Nat.reduceEqDiff, Nat.reduceLT, Nat.reduceLeDiff, beq_self_eq_true, beq_iff_eq, true_and, and_true, Bool.false_eq_true, ite_self, Int.reduceTMod, Int.reduceTDiv, List.tail_cons, List.cons_append, List.nil_append, Nat.zero_add, p1, p2, p3, b0, es]
    clear es
    exact ih (i + 1) _ _ (by omega) h'
def rB : List (Nat × Nat) → List (Nat × Nat) → Bool
  | [], [] => true
  | (a, b) :: l, (c, e) :: m => Nat.beq a c && (Nat.beq b e && rB l m)
  | _, _ => false
def iB : List (Nat × Int) → List (Nat × Int) → Bool
  | [], [] => true
  | (a, b) :: l, (c, e) :: m => Nat.beq a c && (decide (b = e) && iB l m)
  | _, _ => false
def oB : Option Cd → Option Cd → Bool
  | some x, some y => Nat.beq x.1 y.1 && (Nat.beq x.2.1 y.2.1 && (rB x.2.2.1 y.2.2.1 && iB x.2.2.2 y.2.2.2))
  | _, _ => false
theorem rB_ok : ∀ l m, rB l m = true → l = m
  | [], [], _ => rfl
  | [], _ :: _, h => by simp [rB] at h
  | _ :: _, [], h => by simp [rB] at h
  | (a, b) :: l, (c, e) :: m, h => by
    unfold rB at h
    rw [Bool.and_eq_true, Bool.and_eq_true] at h
    rw [Nat.eq_of_beq_eq_true h.1, Nat.eq_of_beq_eq_true h.2.1, rB_ok l m h.2.2]
theorem iB_ok : ∀ l m, iB l m = true → l = m
  | [], [], _ => rfl
  | [], _ :: _, h => by simp [iB] at h
  | _ :: _, [], h => by simp [iB] at h
  | (a, b) :: l, (c, e) :: m, h => by
    unfold iB at h
    rw [Bool.and_eq_true, Bool.and_eq_true] at h
    rw [Nat.eq_of_beq_eq_true h.1, of_decide_eq_true h.2.1, iB_ok l m h.2.2]
theorem oB_ok : ∀ x y, oB x y = true → x = y
  | some (a1, a2, a3, a4), some (b1, b2, b3, b4), h => by
    unfold oB at h
    rw [Bool.and_eq_true, Bool.and_eq_true, Bool.and_eq_true] at h
    have e1 : a1 = b1 := Nat.eq_of_beq_eq_true h.1
    have e2 : a2 = b2 := Nat.eq_of_beq_eq_true h.2.1
    have e3 : a3 = b3 := rB_ok _ _ h.2.2.1
    have e4 : a4 = b4 := iB_ok _ _ h.2.2.2
    rw [e1, e2, e3, e4]
  | none, none, h => by simp [oB] at h
  | none, some _, h => by simp [oB] at h
  | some _, none, h => by simp [oB] at h
theorem gw_t1 : (allB 138 fun i => Nat.beq i 116 || oB (gwO :: gw0)[i]? gwT[i]?) = true := by decide +kernel
theorem gw_t2 : (allB 6 fun j => allB 9 fun r => oB (sceneT (154 + 9 * j) 0)[r]? gwT[138 + 9 * j + r]?) = true := by decide +kernel
theorem gw_116 : gwT[116]? = some (104, 6, kRf, []) := oB_ok _ _ (by decide +kernel)
theorem gw_115 : gw0[115]? = some (104, 6, [], []) := oB_ok _ _ (by decide +kernel)
theorem kRf_k (k : Nat) : (if k < 6 then 154 + 9 * k else 0) = rlk kRf k := by
  unfold kRf
  simp -implicitDefEqProofs only [rlk]
  by_cases c : k < 6
  · rw [if_pos c]
    have c' : k = 0 ∨ k = 1 ∨ k = 2 ∨ k = 3 ∨ k = 4 ∨ k = 5 := by omega
    rcases c' with rfl | rfl | rfl | rfl | rfl | rfl <;> rfl
  · rw [if_neg c, if_neg (by omega), if_neg (by omega), if_neg (by omega), if_neg (by omega), if_neg (by omega), if_neg (by omega)]
theorem gw_cel {zb : xZ} {vb : xV} (ho : Cel zb vb 16 gwO) (hs : Seg zb vb 17 gw0) (h : KLp 6 zb vb z v) {i : Nat} {c : Cd} (hi : i < 192) (hg : gwT[i]? = some c) : Cel z v (16 + i) c := by
  by_cases c1 : i < 138
  · by_cases c2 : i = 116
    · subst c2
      have e : c = (104, 6, kRf, []) := by
        rw [gw_116] at hg
        exact (Option.some.inj hg).symm
      subst e
      have q : Cel zb vb 132 (104, 6, [], []) := Seg_at gw0 17 115 _ hs gw_115
      obtain ⟨r1, r2, -, r4⟩ := h.fr 132 (by decide)
      exact ⟨r1.trans q.1, r2.trans q.2.1, fun k => (h.rf k).trans (kRf_k k), fun k => by rw [show 16 + 116 = 132 from rfl, r4]; exact q.2.2.2 k⟩
    · have t := allB_spec gw_t1 i c1
      rw [Bool.or_eq_true] at t
      have t' : (gwO :: gw0)[i]? = gwT[i]? := by
        rcases t with t | t
        · exact absurd (Nat.eq_of_beq_eq_true t) c2
        · exact oB_ok _ _ t
      have q : Cel zb vb (16 + i) c := Seg_at (gwO :: gw0) 16 i c ⟨ho, hs⟩ (t'.trans hg)
      obtain ⟨r1, r2, r3, r4⟩ := h.fr (16 + i) (by omega)
      exact Cel_fr ⟨r1, r2, r3 (by omega), r4⟩ q
  · have t := oB_ok _ _ (allB_spec (allB_spec gw_t2 ((i - 138) / 9) (by omega)) ((i - 138) % 9) (by omega))
    have e1 : 138 + 9 * ((i - 138) / 9) + (i - 138) % 9 = i := by omega
    rw [e1] at t
    have q := Seg_at _ _ _ c (h.sg ((i - 138) / 9) (by omega)) (t.trans hg)
    rw [show 154 + 9 * ((i - 138) / 9) + (i - 138) % 9 = 16 + i by omega] at q
    exact q
theorem k_gw (hn : zn z = 17) (hc : Cel z v 16 (0, 0, [], [])) (hQ : ∀ z' v', zn z' = 208 → zs z' = zs z + 7071 → Fr 16 z v z' v' → (∀ i c, i < 192 → gwT[i]? = some c → Cel z' v' (16 + i) c) → Q z' v' (.inl 0)) : EvM TB (d + 4) 1 z v [.inr (.inl 16)] Q := by
  have h := Bd_0 (b := 16) hn hc
  rw [e_ev]
  simp -implicitDefEqProofs only [lay_a, lay_i, lay_n]
  rw [g_1_0]
  simp -implicitDefEqProofs only [x_aload, nth_0, nth_s, ldA_a, ldI_i, x_iconst, x_iload, x_dupA, x_dupI, x_nil, g_1_0, g_1_84, g_1_114]
  refine xb_obj h (by decide) ?_
  try simp -implicitDefEqProofs only [x_aload, nth_0, nth_s, ldA_a, ldI_i, x_iconst, x_iload, x_dupA, x_dupI, x_nil, g_1_0, g_1_84, g_1_114]
  refine xb_new h (fun z1 v1 h => ?_)
  try simp -implicitDefEqProofs only [x_aload, nth_0, nth_s, ldA_a, ldI_i, x_iconst, x_iload, x_dupA, x_dupI, x_nil, g_1_0, g_1_84, g_1_114]
  refine xb_c1 (kind := 1) (by decide) (by decide) (by decide) (Bd_last h).2.1 rfl ?_
  refine k_whole (Bd_last h).1 (Bd_last h).2 (fun z2 v2 c1 c2 c3 c4 => ?_)
  have h := Bd_child h rfl c1 c2 c3 c4
  refine xb_putR h (by decide) (fun z1 h => ?_)
  try simp -implicitDefEqProofs only [x_aload, nth_0, nth_s, ldA_a, ldI_i, x_iconst, x_iload, x_dupA, x_dupI, x_nil, g_1_0, g_1_84, g_1_114]
  refine xb_new h (fun z1 v1 h => ?_)
  try simp -implicitDefEqProofs only [x_aload, nth_0, nth_s, ldA_a, ldI_i, x_iconst, x_iload, x_dupA, x_dupI, x_nil, g_1_0, g_1_84, g_1_114]
  refine xb_c1 (kind := 1) (by decide) (by decide) (by decide) (Bd_last h).2.1 rfl ?_
  refine k_whole (Bd_last h).1 (Bd_last h).2 (fun z2 v2 c1 c2 c3 c4 => ?_)
  have h := Bd_child h rfl c1 c2 c3 c4
  refine xb_putR h (by decide) (fun z1 h => ?_)
  try simp -implicitDefEqProofs only [x_aload, nth_0, nth_s, ldA_a, ldI_i, x_iconst, x_iload, x_dupA, x_dupI, x_nil, g_1_0, g_1_84, g_1_114]
  refine xb_new h (fun z1 v1 h => ?_)
  try simp -implicitDefEqProofs only [x_aload, nth_0, nth_s, ldA_a, ldI_i, x_iconst, x_iload, x_dupA, x_dupI, x_nil, g_1_0, g_1_84, g_1_114]
  refine xb_c2 (kind := 6) (by decide) (by decide) (by decide) (Bd_last h).2.1 rfl ?_
  refine k_scene (b := _) (by decide) (Bd_last h).1 (Bd_last h).2 (fun z2 v2 c1 c2 c3 c4 => ?_)
  have h := Bd_child h rfl c1 c2 c3 c4
  refine xb_putR h (by decide) (fun z1 h => ?_)
  try simp -implicitDefEqProofs only [x_aload, nth_0, nth_s, ldA_a, ldI_i, x_iconst, x_iload, x_dupA, x_dupI, x_nil, g_1_0, g_1_84, g_1_114]
  refine xb_anew h (by decide) (fun z1 v1 h => ?_)
  refine xb_putR h (by decide) (fun z1 h => ?_)
  try simp -implicitDefEqProofs only [x_aload, nth_0, nth_s, ldA_a, ldI_i, x_iconst, x_iload, x_dupA, x_dupI, x_nil, g_1_0, g_1_84, g_1_114]
  refine xb_newC h (by decide) (fun z1 v1 h => ?_)
  refine xb_putR h (by decide) (fun z1 h => ?_)
  try simp -implicitDefEqProofs only [x_aload, nth_0, nth_s, ldA_a, ldI_i, x_iconst, x_iload, x_dupA, x_dupI, x_nil, g_1_0, g_1_84, g_1_114]
  refine xb_new h (fun z1 v1 h => ?_)
  try simp -implicitDefEqProofs only [x_aload, nth_0, nth_s, ldA_a, ldI_i, x_iconst, x_iload, x_dupA, x_dupI, x_nil, g_1_0, g_1_84, g_1_114]
  refine xb_c1 (kind := 8) (by decide) (by decide) (by decide) (Bd_last h).2.1 rfl ?_
  refine k_reader (Bd_last h).1 (Bd_last h).2 (fun z2 v2 c1 c2 c3 c4 => ?_)
  have h := Bd_child h rfl c1 c2 c3 c4
  refine xb_putR h (by decide) (fun z1 h => ?_)
  try simp -implicitDefEqProofs only [x_aload, nth_0, nth_s, ldA_a, ldI_i, x_iconst, x_iload, x_dupA, x_dupI, x_nil, g_1_0, g_1_84, g_1_114]
  refine xb_new h (fun z1 v1 h => ?_)
  try simp -implicitDefEqProofs only [x_aload, nth_0, nth_s, ldA_a, ldI_i, x_iconst, x_iload, x_dupA, x_dupI, x_nil, g_1_0, g_1_84, g_1_114]
  refine xb_c1 (kind := 3) (by decide) (by decide) (by decide) (Bd_last h).2.1 rfl ?_
  refine k_lines (Bd_last h).1 (Bd_last h).2 (fun z2 v2 c1 c2 c3 c4 => ?_)
  have h := Bd_child h rfl c1 c2 c3 c4
  refine xb_putR h (by decide) (fun z1 h => ?_)
  try simp -implicitDefEqProofs only [x_aload, nth_0, nth_s, ldA_a, ldI_i, x_iconst, x_iload, x_dupA, x_dupI, x_nil, g_1_0, g_1_84, g_1_114]
  refine xb_putI h (by decide) (fun v1 h => ?_)
  try simp -implicitDefEqProofs only [x_aload, nth_0, nth_s, ldA_a, ldI_i, x_iconst, x_iload, x_dupA, x_dupI, x_nil, g_1_0, g_1_84, g_1_114]
  simp -implicitDefEqProofs only [x_istore, sto_0, sto_i, sto_a, sto_n0, x_nil]
  have ho : Cel _ _ 16 gwO := h.ob
  have hsg : Seg _ _ 17 gw0 := h.sg
  have q : Cel _ _ 132 (104, 6, [], []) := Seg_at gw0 17 115 _ hsg gw_115
  refine k_loop (zb := _) (vb := _) ho.1 (ho.2.2.1 4) q.1 q.2.1 (fun z' v' hk => ?_) 6 0 _ _ rfl ⟨h.hn, rfl, fun _ _ => ⟨rfl, rfl, fun _ => rfl, rfl⟩, fun k => (q.2.2.1 k).trans (by rw [if_neg (by omega)]; rfl), fun j hj => absurd hj (by omega)⟩
  refine hQ z' v' hk.hn ?_ (fun a ha => ?_) (fun i c hi hg => gw_cel ho hsg hk hi hg)
  · rw [hk.hs, h.hs, Nat.add_assoc]
    rfl
  · obtain ⟨r1, r2, r3, r4⟩ := h.fr a ha
    obtain ⟨q1, q2, q3, q4⟩ := hk.fr a (by omega)
    exact ⟨q1.trans r1, q2.trans r2, (q3 (by omega)).trans r3, q4.trans r4⟩
def mdT : List Cd := [(10, 0, [(68, 249), (64, 248), (63, 247), (62, 246), (60, 245), (58, 244), (57, 243), (55, 242), (53, 241), (52, 240), (51, 239), (50, 238), (49, 237), (48, 236), (47, 235), (45, 234), (44, 233), (43, 232), (42, 231), (41, 230), (40, 229), (39, 228), (38, 227), (36, 226), (35, 225), (33, 224), (26, 223), (22, 222), (21, 221), (20, 220), (19, 219), (18, 218), (17, 217), (16, 216), (15, 215), (9, 214), (8, 213), (7, 212), (4, 211), (2, 210), (1, 209)], [(31, -1)]), (100, 247, [], []), (100, 1482, [], []), (100, 247, [], []), (100, 10, [], []), (100, 600, [], []), (100, 400, [], []), (100, 138, [], [(137, 32), (136, 101), (135, 108), (134, 98), (133, 97), (132, 116), (131, 32), (130, 101), (129, 114), (128, 97), (127, 98), (126, 32), (125, 108), (124, 108), (123, 101), (122, 99), (121, 32), (120, 100), (119, 110), (118, 97), (117, 116), (116, 115), (115, 32), (114, 110), (113, 114), (112, 117), (111, 111), (110, 109), (109, 32), (108, 101), (107, 108), (106, 111), (105, 115), (104, 110), (103, 111), (102, 99), (101, 32), (100, 100), (99, 97), (98, 101), (97, 108), (96, 32), (95, 114), (94, 101), (93, 107), (92, 101), (91, 101), (90, 115), (89, 32), (88, 110), (87, 111), (86, 32), (85, 103), (84, 110), (83, 105), (82, 110), (81, 114), (80, 111), (79, 109), (78, 32), (77, 116), (76, 101), (75, 107), (74, 115), (73, 97), (72, 98), (71, 32), (70, 100), (69, 110), (68, 117), (67, 111), (66, 102), (65, 32), (64, 121), (63, 32), (62, 120), (61, 32), (60, 103), (59, 117), (58, 100), (57, 32), (56, 101), (55, 108), (54, 102), (53, 102), (52, 117), (51, 114), (50, 116), (49, 32), (48, 107), (47, 97), (46, 111), (45, 32), (44, 101), (43, 99), (42, 97), (41, 108), (40, 111), (39, 115), (38, 32), (37, 115), (36, 115), (35, 111), (34, 108), (33, 32), (32, 116), (31, 111), (30, 110), (29, 32), (28, 100), (27, 110), (26, 97), (25, 32), (24, 114), (23, 111), (22, 32), (21, 110), (20, 101), (19, 104), (18, 119), (17, 32), (16, 115), (15, 121), (14, 97), (13, 112), (12, 32), (11, 115), (10, 112), (9, 111), (8, 116), (7, 115), (6, 32), (5, 115), (4, 119), (3, 97), (2, 114), (1, 100), (0, 32)]), (100, 2, [], []), (100, 48, [], []), (100, 48, [], []), (100, 48, [], []), (100, 48, [], []), (100, 1200, [], []), (100, 1200, [], []), (100, 40, [], []), (100, 128, [], []), (100, 16, [], []), (100, 16, [], []), (100, 96, [], []), (100, 10, [], []), (100, 420, [], []), (100, 64, [], []), (100, 64, [], []), (100, 64, [], []), (100, 64, [], []), (100, 8, [], []), (100, 12, [], []), (100, 169, [], []), (100, 8, [], []), (100, 4, [], []), (100, 4, [], []), (100, 4, [], []), (100, 4509, [], []), (100, 12, [], []), (100, 9, [], []), (100, 3, [], []), (100, 8, [], []), (100, 10, [], []), (100, 7776, [], []), (100, 5, [], []), (100, 2400, [], [])]
theorem k_md (hn : zn z = 209) (hc : Cel z v 208 (10, 0, [], [])) (hQ : ∀ z' v', zn z' = 250 → zs z' = zs z + 21641 → Fr 208 z v z' v' → Seg z' v' 208 mdT → Q z' v' (.inl 0)) : EvM TB (d + 1) 177 z v [.inr (.inl 208)] Q := by
  have h := Bd_0 (b := 208) hn hc
  rw [e_ev]
  simp -implicitDefEqProofs only [lay_a, lay_i, lay_n]
  rw [g_177_0]
  simp -implicitDefEqProofs only [x_aload, nth_0, nth_s, ldA_a, ldI_i, x_iconst, x_iload, x_dupA, x_dupI, x_nil, g_177_0, g_177_77, g_177_134, g_177_194, g_177_254, g_177_314, g_177_374, g_177_434, g_177_494, g_177_554, g_177_614, g_177_674, g_177_734, g_177_794, g_177_859, g_177_932, g_177_1015, g_177_1094, g_177_1174]
  refine xb_obj h (by decide) ?_
  try simp -implicitDefEqProofs only [x_aload, nth_0, nth_s, ldA_a, ldI_i, x_iconst, x_iload, x_dupA, x_dupI, x_nil, g_177_0, g_177_77, g_177_134, g_177_194, g_177_254, g_177_314, g_177_374, g_177_434, g_177_494, g_177_554, g_177_614, g_177_674, g_177_734, g_177_794, g_177_859, g_177_932, g_177_1015, g_177_1094, g_177_1174]
  refine xb_newI h (by decide) (fun z1 v1 h => ?_)
  refine xb_putR h (by decide) (fun z1 h => ?_)
  try simp -implicitDefEqProofs only [x_aload, nth_0, nth_s, ldA_a, ldI_i, x_iconst, x_iload, x_dupA, x_dupI, x_nil, g_177_0, g_177_77, g_177_134, g_177_194, g_177_254, g_177_314, g_177_374, g_177_434, g_177_494, g_177_554, g_177_614, g_177_674, g_177_734, g_177_794, g_177_859, g_177_932, g_177_1015, g_177_1094, g_177_1174]
  refine xb_newI h (by decide) (fun z1 v1 h => ?_)
  refine xb_putR h (by decide) (fun z1 h => ?_)
  try simp -implicitDefEqProofs only [x_aload, nth_0, nth_s, ldA_a, ldI_i, x_iconst, x_iload, x_dupA, x_dupI, x_nil, g_177_0, g_177_77, g_177_134, g_177_194, g_177_254, g_177_314, g_177_374, g_177_434, g_177_494, g_177_554, g_177_614, g_177_674, g_177_734, g_177_794, g_177_859, g_177_932, g_177_1015, g_177_1094, g_177_1174]
  refine xb_newI h (by decide) (fun z1 v1 h => ?_)
  refine xb_putR h (by decide) (fun z1 h => ?_)
  try simp -implicitDefEqProofs only [x_aload, nth_0, nth_s, ldA_a, ldI_i, x_iconst, x_iload, x_dupA, x_dupI, x_nil, g_177_0, g_177_77, g_177_134, g_177_194, g_177_254, g_177_314, g_177_374, g_177_434, g_177_494, g_177_554, g_177_614, g_177_674, g_177_734, g_177_794, g_177_859, g_177_932, g_177_1015, g_177_1094, g_177_1174]
  refine xb_newI h (by decide) (fun z1 v1 h => ?_)
  refine xb_putR h (by decide) (fun z1 h => ?_)
  try simp -implicitDefEqProofs only [x_aload, nth_0, nth_s, ldA_a, ldI_i, x_iconst, x_iload, x_dupA, x_dupI, x_nil, g_177_0, g_177_77, g_177_134, g_177_194, g_177_254, g_177_314, g_177_374, g_177_434, g_177_494, g_177_554, g_177_614, g_177_674, g_177_734, g_177_794, g_177_859, g_177_932, g_177_1015, g_177_1094, g_177_1174]
  refine xb_newI h (by decide) (fun z1 v1 h => ?_)
  refine xb_putR h (by decide) (fun z1 h => ?_)
  try simp -implicitDefEqProofs only [x_aload, nth_0, nth_s, ldA_a, ldI_i, x_iconst, x_iload, x_dupA, x_dupI, x_nil, g_177_0, g_177_77, g_177_134, g_177_194, g_177_254, g_177_314, g_177_374, g_177_434, g_177_494, g_177_554, g_177_614, g_177_674, g_177_734, g_177_794, g_177_859, g_177_932, g_177_1015, g_177_1094, g_177_1174]
  refine xb_newI h (by decide) (fun z1 v1 h => ?_)
  refine xb_putR h (by decide) (fun z1 h => ?_)
  try simp -implicitDefEqProofs only [x_aload, nth_0, nth_s, ldA_a, ldI_i, x_iconst, x_iload, x_dupA, x_dupI, x_nil, g_177_0, g_177_77, g_177_134, g_177_194, g_177_254, g_177_314, g_177_374, g_177_434, g_177_494, g_177_554, g_177_614, g_177_674, g_177_734, g_177_794, g_177_859, g_177_932, g_177_1015, g_177_1094, g_177_1174]
  refine xb_newI h (by decide) (fun z1 v1 h => ?_)
  try simp -implicitDefEqProofs only [x_aload, nth_0, nth_s, ldA_a, ldI_i, x_iconst, x_iload, x_dupA, x_dupI, x_nil, g_177_0, g_177_77, g_177_134, g_177_194, g_177_254, g_177_314, g_177_374, g_177_434, g_177_494, g_177_554, g_177_614, g_177_674, g_177_734, g_177_794, g_177_859, g_177_932, g_177_1015, g_177_1094, g_177_1174]
  refine xb_ast h (by decide) (fun v1 h => ?_)
  try simp -implicitDefEqProofs only [x_aload, nth_0, nth_s, ldA_a, ldI_i, x_iconst, x_iload, x_dupA, x_dupI, x_nil, g_177_0, g_177_77, g_177_134, g_177_194, g_177_254, g_177_314, g_177_374, g_177_434, g_177_494, g_177_554, g_177_614, g_177_674, g_177_734, g_177_794, g_177_859, g_177_932, g_177_1015, g_177_1094, g_177_1174]
  refine xb_ast h (by decide) (fun v1 h => ?_)
  try simp -implicitDefEqProofs only [x_aload, nth_0, nth_s, ldA_a, ldI_i, x_iconst, x_iload, x_dupA, x_dupI, x_nil, g_177_0, g_177_77, g_177_134, g_177_194, g_177_254, g_177_314, g_177_374, g_177_434, g_177_494, g_177_554, g_177_614, g_177_674, g_177_734, g_177_794, g_177_859, g_177_932, g_177_1015, g_177_1094, g_177_1174]
  refine xb_ast h (by decide) (fun v1 h => ?_)
  try simp -implicitDefEqProofs only [x_aload, nth_0, nth_s, ldA_a, ldI_i, x_iconst, x_iload, x_dupA, x_dupI, x_nil, g_177_0, g_177_77, g_177_134, g_177_194, g_177_254, g_177_314, g_177_374, g_177_434, g_177_494, g_177_554, g_177_614, g_177_674, g_177_734, g_177_794, g_177_859, g_177_932, g_177_1015, g_177_1094, g_177_1174]
  refine xb_ast h (by decide) (fun v1 h => ?_)
  try simp -implicitDefEqProofs only [x_aload, nth_0, nth_s, ldA_a, ldI_i, x_iconst, x_iload, x_dupA, x_dupI, x_nil, g_177_0, g_177_77, g_177_134, g_177_194, g_177_254, g_177_314, g_177_374, g_177_434, g_177_494, g_177_554, g_177_614, g_177_674, g_177_734, g_177_794, g_177_859, g_177_932, g_177_1015, g_177_1094, g_177_1174]
  refine xb_ast h (by decide) (fun v1 h => ?_)
  try simp -implicitDefEqProofs only [x_aload, nth_0, nth_s, ldA_a, ldI_i, x_iconst, x_iload, x_dupA, x_dupI, x_nil, g_177_0, g_177_77, g_177_134, g_177_194, g_177_254, g_177_314, g_177_374, g_177_434, g_177_494, g_177_554, g_177_614, g_177_674, g_177_734, g_177_794, g_177_859, g_177_932, g_177_1015, g_177_1094, g_177_1174]
  refine xb_ast h (by decide) (fun v1 h => ?_)
  try simp -implicitDefEqProofs only [x_aload, nth_0, nth_s, ldA_a, ldI_i, x_iconst, x_iload, x_dupA, x_dupI, x_nil, g_177_0, g_177_77, g_177_134, g_177_194, g_177_254, g_177_314, g_177_374, g_177_434, g_177_494, g_177_554, g_177_614, g_177_674, g_177_734, g_177_794, g_177_859, g_177_932, g_177_1015, g_177_1094, g_177_1174]
  refine xb_ast h (by decide) (fun v1 h => ?_)
  try simp -implicitDefEqProofs only [x_aload, nth_0, nth_s, ldA_a, ldI_i, x_iconst, x_iload, x_dupA, x_dupI, x_nil, g_177_0, g_177_77, g_177_134, g_177_194, g_177_254, g_177_314, g_177_374, g_177_434, g_177_494, g_177_554, g_177_614, g_177_674, g_177_734, g_177_794, g_177_859, g_177_932, g_177_1015, g_177_1094, g_177_1174]
  refine xb_ast h (by decide) (fun v1 h => ?_)
  try simp -implicitDefEqProofs only [x_aload, nth_0, nth_s, ldA_a, ldI_i, x_iconst, x_iload, x_dupA, x_dupI, x_nil, g_177_0, g_177_77, g_177_134, g_177_194, g_177_254, g_177_314, g_177_374, g_177_434, g_177_494, g_177_554, g_177_614, g_177_674, g_177_734, g_177_794, g_177_859, g_177_932, g_177_1015, g_177_1094, g_177_1174]
  refine xb_ast h (by decide) (fun v1 h => ?_)
  try simp -implicitDefEqProofs only [x_aload, nth_0, nth_s, ldA_a, ldI_i, x_iconst, x_iload, x_dupA, x_dupI, x_nil, g_177_0, g_177_77, g_177_134, g_177_194, g_177_254, g_177_314, g_177_374, g_177_434, g_177_494, g_177_554, g_177_614, g_177_674, g_177_734, g_177_794, g_177_859, g_177_932, g_177_1015, g_177_1094, g_177_1174]
  refine xb_ast h (by decide) (fun v1 h => ?_)
  try simp -implicitDefEqProofs only [x_aload, nth_0, nth_s, ldA_a, ldI_i, x_iconst, x_iload, x_dupA, x_dupI, x_nil, g_177_0, g_177_77, g_177_134, g_177_194, g_177_254, g_177_314, g_177_374, g_177_434, g_177_494, g_177_554, g_177_614, g_177_674, g_177_734, g_177_794, g_177_859, g_177_932, g_177_1015, g_177_1094, g_177_1174]
  refine xb_ast h (by decide) (fun v1 h => ?_)
  try simp -implicitDefEqProofs only [x_aload, nth_0, nth_s, ldA_a, ldI_i, x_iconst, x_iload, x_dupA, x_dupI, x_nil, g_177_0, g_177_77, g_177_134, g_177_194, g_177_254, g_177_314, g_177_374, g_177_434, g_177_494, g_177_554, g_177_614, g_177_674, g_177_734, g_177_794, g_177_859, g_177_932, g_177_1015, g_177_1094, g_177_1174]
  refine xb_ast h (by decide) (fun v1 h => ?_)
  try simp -implicitDefEqProofs only [x_aload, nth_0, nth_s, ldA_a, ldI_i, x_iconst, x_iload, x_dupA, x_dupI, x_nil, g_177_0, g_177_77, g_177_134, g_177_194, g_177_254, g_177_314, g_177_374, g_177_434, g_177_494, g_177_554, g_177_614, g_177_674, g_177_734, g_177_794, g_177_859, g_177_932, g_177_1015, g_177_1094, g_177_1174]
  refine xb_ast h (by decide) (fun v1 h => ?_)
  try simp -implicitDefEqProofs only [x_aload, nth_0, nth_s, ldA_a, ldI_i, x_iconst, x_iload, x_dupA, x_dupI, x_nil, g_177_0, g_177_77, g_177_134, g_177_194, g_177_254, g_177_314, g_177_374, g_177_434, g_177_494, g_177_554, g_177_614, g_177_674, g_177_734, g_177_794, g_177_859, g_177_932, g_177_1015, g_177_1094, g_177_1174]
  refine xb_ast h (by decide) (fun v1 h => ?_)
  try simp -implicitDefEqProofs only [x_aload, nth_0, nth_s, ldA_a, ldI_i, x_iconst, x_iload, x_dupA, x_dupI, x_nil, g_177_0, g_177_77, g_177_134, g_177_194, g_177_254, g_177_314, g_177_374, g_177_434, g_177_494, g_177_554, g_177_614, g_177_674, g_177_734, g_177_794, g_177_859, g_177_932, g_177_1015, g_177_1094, g_177_1174]
  refine xb_ast h (by decide) (fun v1 h => ?_)
  try simp -implicitDefEqProofs only [x_aload, nth_0, nth_s, ldA_a, ldI_i, x_iconst, x_iload, x_dupA, x_dupI, x_nil, g_177_0, g_177_77, g_177_134, g_177_194, g_177_254, g_177_314, g_177_374, g_177_434, g_177_494, g_177_554, g_177_614, g_177_674, g_177_734, g_177_794, g_177_859, g_177_932, g_177_1015, g_177_1094, g_177_1174]
  refine xb_ast h (by decide) (fun v1 h => ?_)
  try simp -implicitDefEqProofs only [x_aload, nth_0, nth_s, ldA_a, ldI_i, x_iconst, x_iload, x_dupA, x_dupI, x_nil, g_177_0, g_177_77, g_177_134, g_177_194, g_177_254, g_177_314, g_177_374, g_177_434, g_177_494, g_177_554, g_177_614, g_177_674, g_177_734, g_177_794, g_177_859, g_177_932, g_177_1015, g_177_1094, g_177_1174]
  refine xb_ast h (by decide) (fun v1 h => ?_)
  try simp -implicitDefEqProofs only [x_aload, nth_0, nth_s, ldA_a, ldI_i, x_iconst, x_iload, x_dupA, x_dupI, x_nil, g_177_0, g_177_77, g_177_134, g_177_194, g_177_254, g_177_314, g_177_374, g_177_434, g_177_494, g_177_554, g_177_614, g_177_674, g_177_734, g_177_794, g_177_859, g_177_932, g_177_1015, g_177_1094, g_177_1174]
  refine xb_ast h (by decide) (fun v1 h => ?_)
  try simp -implicitDefEqProofs only [x_aload, nth_0, nth_s, ldA_a, ldI_i, x_iconst, x_iload, x_dupA, x_dupI, x_nil, g_177_0, g_177_77, g_177_134, g_177_194, g_177_254, g_177_314, g_177_374, g_177_434, g_177_494, g_177_554, g_177_614, g_177_674, g_177_734, g_177_794, g_177_859, g_177_932, g_177_1015, g_177_1094, g_177_1174]
  refine xb_ast h (by decide) (fun v1 h => ?_)
  try simp -implicitDefEqProofs only [x_aload, nth_0, nth_s, ldA_a, ldI_i, x_iconst, x_iload, x_dupA, x_dupI, x_nil, g_177_0, g_177_77, g_177_134, g_177_194, g_177_254, g_177_314, g_177_374, g_177_434, g_177_494, g_177_554, g_177_614, g_177_674, g_177_734, g_177_794, g_177_859, g_177_932, g_177_1015, g_177_1094, g_177_1174]
  refine xb_ast h (by decide) (fun v1 h => ?_)
  try simp -implicitDefEqProofs only [x_aload, nth_0, nth_s, ldA_a, ldI_i, x_iconst, x_iload, x_dupA, x_dupI, x_nil, g_177_0, g_177_77, g_177_134, g_177_194, g_177_254, g_177_314, g_177_374, g_177_434, g_177_494, g_177_554, g_177_614, g_177_674, g_177_734, g_177_794, g_177_859, g_177_932, g_177_1015, g_177_1094, g_177_1174]
  refine xb_ast h (by decide) (fun v1 h => ?_)
  try simp -implicitDefEqProofs only [x_aload, nth_0, nth_s, ldA_a, ldI_i, x_iconst, x_iload, x_dupA, x_dupI, x_nil, g_177_0, g_177_77, g_177_134, g_177_194, g_177_254, g_177_314, g_177_374, g_177_434, g_177_494, g_177_554, g_177_614, g_177_674, g_177_734, g_177_794, g_177_859, g_177_932, g_177_1015, g_177_1094, g_177_1174]
  refine xb_ast h (by decide) (fun v1 h => ?_)
  try simp -implicitDefEqProofs only [x_aload, nth_0, nth_s, ldA_a, ldI_i, x_iconst, x_iload, x_dupA, x_dupI, x_nil, g_177_0, g_177_77, g_177_134, g_177_194, g_177_254, g_177_314, g_177_374, g_177_434, g_177_494, g_177_554, g_177_614, g_177_674, g_177_734, g_177_794, g_177_859, g_177_932, g_177_1015, g_177_1094, g_177_1174]
  refine xb_ast h (by decide) (fun v1 h => ?_)
  try simp -implicitDefEqProofs only [x_aload, nth_0, nth_s, ldA_a, ldI_i, x_iconst, x_iload, x_dupA, x_dupI, x_nil, g_177_0, g_177_77, g_177_134, g_177_194, g_177_254, g_177_314, g_177_374, g_177_434, g_177_494, g_177_554, g_177_614, g_177_674, g_177_734, g_177_794, g_177_859, g_177_932, g_177_1015, g_177_1094, g_177_1174]
  refine xb_ast h (by decide) (fun v1 h => ?_)
  try simp -implicitDefEqProofs only [x_aload, nth_0, nth_s, ldA_a, ldI_i, x_iconst, x_iload, x_dupA, x_dupI, x_nil, g_177_0, g_177_77, g_177_134, g_177_194, g_177_254, g_177_314, g_177_374, g_177_434, g_177_494, g_177_554, g_177_614, g_177_674, g_177_734, g_177_794, g_177_859, g_177_932, g_177_1015, g_177_1094, g_177_1174]
  refine xb_ast h (by decide) (fun v1 h => ?_)
  try simp -implicitDefEqProofs only [x_aload, nth_0, nth_s, ldA_a, ldI_i, x_iconst, x_iload, x_dupA, x_dupI, x_nil, g_177_0, g_177_77, g_177_134, g_177_194, g_177_254, g_177_314, g_177_374, g_177_434, g_177_494, g_177_554, g_177_614, g_177_674, g_177_734, g_177_794, g_177_859, g_177_932, g_177_1015, g_177_1094, g_177_1174]
  refine xb_ast h (by decide) (fun v1 h => ?_)
  try simp -implicitDefEqProofs only [x_aload, nth_0, nth_s, ldA_a, ldI_i, x_iconst, x_iload, x_dupA, x_dupI, x_nil, g_177_0, g_177_77, g_177_134, g_177_194, g_177_254, g_177_314, g_177_374, g_177_434, g_177_494, g_177_554, g_177_614, g_177_674, g_177_734, g_177_794, g_177_859, g_177_932, g_177_1015, g_177_1094, g_177_1174]
  refine xb_ast h (by decide) (fun v1 h => ?_)
  try simp -implicitDefEqProofs only [x_aload, nth_0, nth_s, ldA_a, ldI_i, x_iconst, x_iload, x_dupA, x_dupI, x_nil, g_177_0, g_177_77, g_177_134, g_177_194, g_177_254, g_177_314, g_177_374, g_177_434, g_177_494, g_177_554, g_177_614, g_177_674, g_177_734, g_177_794, g_177_859, g_177_932, g_177_1015, g_177_1094, g_177_1174]
  refine xb_ast h (by decide) (fun v1 h => ?_)
  try simp -implicitDefEqProofs only [x_aload, nth_0, nth_s, ldA_a, ldI_i, x_iconst, x_iload, x_dupA, x_dupI, x_nil, g_177_0, g_177_77, g_177_134, g_177_194, g_177_254, g_177_314, g_177_374, g_177_434, g_177_494, g_177_554, g_177_614, g_177_674, g_177_734, g_177_794, g_177_859, g_177_932, g_177_1015, g_177_1094, g_177_1174]
  refine xb_ast h (by decide) (fun v1 h => ?_)
  try simp -implicitDefEqProofs only [x_aload, nth_0, nth_s, ldA_a, ldI_i, x_iconst, x_iload, x_dupA, x_dupI, x_nil, g_177_0, g_177_77, g_177_134, g_177_194, g_177_254, g_177_314, g_177_374, g_177_434, g_177_494, g_177_554, g_177_614, g_177_674, g_177_734, g_177_794, g_177_859, g_177_932, g_177_1015, g_177_1094, g_177_1174]
  refine xb_ast h (by decide) (fun v1 h => ?_)
  try simp -implicitDefEqProofs only [x_aload, nth_0, nth_s, ldA_a, ldI_i, x_iconst, x_iload, x_dupA, x_dupI, x_nil, g_177_0, g_177_77, g_177_134, g_177_194, g_177_254, g_177_314, g_177_374, g_177_434, g_177_494, g_177_554, g_177_614, g_177_674, g_177_734, g_177_794, g_177_859, g_177_932, g_177_1015, g_177_1094, g_177_1174]
  refine xb_ast h (by decide) (fun v1 h => ?_)
  try simp -implicitDefEqProofs only [x_aload, nth_0, nth_s, ldA_a, ldI_i, x_iconst, x_iload, x_dupA, x_dupI, x_nil, g_177_0, g_177_77, g_177_134, g_177_194, g_177_254, g_177_314, g_177_374, g_177_434, g_177_494, g_177_554, g_177_614, g_177_674, g_177_734, g_177_794, g_177_859, g_177_932, g_177_1015, g_177_1094, g_177_1174]
  refine xb_ast h (by decide) (fun v1 h => ?_)
  try simp -implicitDefEqProofs only [x_aload, nth_0, nth_s, ldA_a, ldI_i, x_iconst, x_iload, x_dupA, x_dupI, x_nil, g_177_0, g_177_77, g_177_134, g_177_194, g_177_254, g_177_314, g_177_374, g_177_434, g_177_494, g_177_554, g_177_614, g_177_674, g_177_734, g_177_794, g_177_859, g_177_932, g_177_1015, g_177_1094, g_177_1174]
  refine xb_ast h (by decide) (fun v1 h => ?_)
  try simp -implicitDefEqProofs only [x_aload, nth_0, nth_s, ldA_a, ldI_i, x_iconst, x_iload, x_dupA, x_dupI, x_nil, g_177_0, g_177_77, g_177_134, g_177_194, g_177_254, g_177_314, g_177_374, g_177_434, g_177_494, g_177_554, g_177_614, g_177_674, g_177_734, g_177_794, g_177_859, g_177_932, g_177_1015, g_177_1094, g_177_1174]
  refine xb_ast h (by decide) (fun v1 h => ?_)
  try simp -implicitDefEqProofs only [x_aload, nth_0, nth_s, ldA_a, ldI_i, x_iconst, x_iload, x_dupA, x_dupI, x_nil, g_177_0, g_177_77, g_177_134, g_177_194, g_177_254, g_177_314, g_177_374, g_177_434, g_177_494, g_177_554, g_177_614, g_177_674, g_177_734, g_177_794, g_177_859, g_177_932, g_177_1015, g_177_1094, g_177_1174]
  refine xb_ast h (by decide) (fun v1 h => ?_)
  try simp -implicitDefEqProofs only [x_aload, nth_0, nth_s, ldA_a, ldI_i, x_iconst, x_iload, x_dupA, x_dupI, x_nil, g_177_0, g_177_77, g_177_134, g_177_194, g_177_254, g_177_314, g_177_374, g_177_434, g_177_494, g_177_554, g_177_614, g_177_674, g_177_734, g_177_794, g_177_859, g_177_932, g_177_1015, g_177_1094, g_177_1174]
  refine xb_ast h (by decide) (fun v1 h => ?_)
  try simp -implicitDefEqProofs only [x_aload, nth_0, nth_s, ldA_a, ldI_i, x_iconst, x_iload, x_dupA, x_dupI, x_nil, g_177_0, g_177_77, g_177_134, g_177_194, g_177_254, g_177_314, g_177_374, g_177_434, g_177_494, g_177_554, g_177_614, g_177_674, g_177_734, g_177_794, g_177_859, g_177_932, g_177_1015, g_177_1094, g_177_1174]
  refine xb_ast h (by decide) (fun v1 h => ?_)
  try simp -implicitDefEqProofs only [x_aload, nth_0, nth_s, ldA_a, ldI_i, x_iconst, x_iload, x_dupA, x_dupI, x_nil, g_177_0, g_177_77, g_177_134, g_177_194, g_177_254, g_177_314, g_177_374, g_177_434, g_177_494, g_177_554, g_177_614, g_177_674, g_177_734, g_177_794, g_177_859, g_177_932, g_177_1015, g_177_1094, g_177_1174]
  refine xb_ast h (by decide) (fun v1 h => ?_)
  try simp -implicitDefEqProofs only [x_aload, nth_0, nth_s, ldA_a, ldI_i, x_iconst, x_iload, x_dupA, x_dupI, x_nil, g_177_0, g_177_77, g_177_134, g_177_194, g_177_254, g_177_314, g_177_374, g_177_434, g_177_494, g_177_554, g_177_614, g_177_674, g_177_734, g_177_794, g_177_859, g_177_932, g_177_1015, g_177_1094, g_177_1174]
  refine xb_ast h (by decide) (fun v1 h => ?_)
  try simp -implicitDefEqProofs only [x_aload, nth_0, nth_s, ldA_a, ldI_i, x_iconst, x_iload, x_dupA, x_dupI, x_nil, g_177_0, g_177_77, g_177_134, g_177_194, g_177_254, g_177_314, g_177_374, g_177_434, g_177_494, g_177_554, g_177_614, g_177_674, g_177_734, g_177_794, g_177_859, g_177_932, g_177_1015, g_177_1094, g_177_1174]
  refine xb_ast h (by decide) (fun v1 h => ?_)
  try simp -implicitDefEqProofs only [x_aload, nth_0, nth_s, ldA_a, ldI_i, x_iconst, x_iload, x_dupA, x_dupI, x_nil, g_177_0, g_177_77, g_177_134, g_177_194, g_177_254, g_177_314, g_177_374, g_177_434, g_177_494, g_177_554, g_177_614, g_177_674, g_177_734, g_177_794, g_177_859, g_177_932, g_177_1015, g_177_1094, g_177_1174]
  refine xb_ast h (by decide) (fun v1 h => ?_)
  try simp -implicitDefEqProofs only [x_aload, nth_0, nth_s, ldA_a, ldI_i, x_iconst, x_iload, x_dupA, x_dupI, x_nil, g_177_0, g_177_77, g_177_134, g_177_194, g_177_254, g_177_314, g_177_374, g_177_434, g_177_494, g_177_554, g_177_614, g_177_674, g_177_734, g_177_794, g_177_859, g_177_932, g_177_1015, g_177_1094, g_177_1174]
  refine xb_ast h (by decide) (fun v1 h => ?_)
  try simp -implicitDefEqProofs only [x_aload, nth_0, nth_s, ldA_a, ldI_i, x_iconst, x_iload, x_dupA, x_dupI, x_nil, g_177_0, g_177_77, g_177_134, g_177_194, g_177_254, g_177_314, g_177_374, g_177_434, g_177_494, g_177_554, g_177_614, g_177_674, g_177_734, g_177_794, g_177_859, g_177_932, g_177_1015, g_177_1094, g_177_1174]
  refine xb_ast h (by decide) (fun v1 h => ?_)
  try simp -implicitDefEqProofs only [x_aload, nth_0, nth_s, ldA_a, ldI_i, x_iconst, x_iload, x_dupA, x_dupI, x_nil, g_177_0, g_177_77, g_177_134, g_177_194, g_177_254, g_177_314, g_177_374, g_177_434, g_177_494, g_177_554, g_177_614, g_177_674, g_177_734, g_177_794, g_177_859, g_177_932, g_177_1015, g_177_1094, g_177_1174]
  refine xb_ast h (by decide) (fun v1 h => ?_)
  try simp -implicitDefEqProofs only [x_aload, nth_0, nth_s, ldA_a, ldI_i, x_iconst, x_iload, x_dupA, x_dupI, x_nil, g_177_0, g_177_77, g_177_134, g_177_194, g_177_254, g_177_314, g_177_374, g_177_434, g_177_494, g_177_554, g_177_614, g_177_674, g_177_734, g_177_794, g_177_859, g_177_932, g_177_1015, g_177_1094, g_177_1174]
  refine xb_ast h (by decide) (fun v1 h => ?_)
  try simp -implicitDefEqProofs only [x_aload, nth_0, nth_s, ldA_a, ldI_i, x_iconst, x_iload, x_dupA, x_dupI, x_nil, g_177_0, g_177_77, g_177_134, g_177_194, g_177_254, g_177_314, g_177_374, g_177_434, g_177_494, g_177_554, g_177_614, g_177_674, g_177_734, g_177_794, g_177_859, g_177_932, g_177_1015, g_177_1094, g_177_1174]
  refine xb_ast h (by decide) (fun v1 h => ?_)
  try simp -implicitDefEqProofs only [x_aload, nth_0, nth_s, ldA_a, ldI_i, x_iconst, x_iload, x_dupA, x_dupI, x_nil, g_177_0, g_177_77, g_177_134, g_177_194, g_177_254, g_177_314, g_177_374, g_177_434, g_177_494, g_177_554, g_177_614, g_177_674, g_177_734, g_177_794, g_177_859, g_177_932, g_177_1015, g_177_1094, g_177_1174]
  refine xb_ast h (by decide) (fun v1 h => ?_)
  try simp -implicitDefEqProofs only [x_aload, nth_0, nth_s, ldA_a, ldI_i, x_iconst, x_iload, x_dupA, x_dupI, x_nil, g_177_0, g_177_77, g_177_134, g_177_194, g_177_254, g_177_314, g_177_374, g_177_434, g_177_494, g_177_554, g_177_614, g_177_674, g_177_734, g_177_794, g_177_859, g_177_932, g_177_1015, g_177_1094, g_177_1174]
  refine xb_ast h (by decide) (fun v1 h => ?_)
  try simp -implicitDefEqProofs only [x_aload, nth_0, nth_s, ldA_a, ldI_i, x_iconst, x_iload, x_dupA, x_dupI, x_nil, g_177_0, g_177_77, g_177_134, g_177_194, g_177_254, g_177_314, g_177_374, g_177_434, g_177_494, g_177_554, g_177_614, g_177_674, g_177_734, g_177_794, g_177_859, g_177_932, g_177_1015, g_177_1094, g_177_1174]
  refine xb_ast h (by decide) (fun v1 h => ?_)
  try simp -implicitDefEqProofs only [x_aload, nth_0, nth_s, ldA_a, ldI_i, x_iconst, x_iload, x_dupA, x_dupI, x_nil, g_177_0, g_177_77, g_177_134, g_177_194, g_177_254, g_177_314, g_177_374, g_177_434, g_177_494, g_177_554, g_177_614, g_177_674, g_177_734, g_177_794, g_177_859, g_177_932, g_177_1015, g_177_1094, g_177_1174]
  refine xb_ast h (by decide) (fun v1 h => ?_)
  try simp -implicitDefEqProofs only [x_aload, nth_0, nth_s, ldA_a, ldI_i, x_iconst, x_iload, x_dupA, x_dupI, x_nil, g_177_0, g_177_77, g_177_134, g_177_194, g_177_254, g_177_314, g_177_374, g_177_434, g_177_494, g_177_554, g_177_614, g_177_674, g_177_734, g_177_794, g_177_859, g_177_932, g_177_1015, g_177_1094, g_177_1174]
  refine xb_ast h (by decide) (fun v1 h => ?_)
  try simp -implicitDefEqProofs only [x_aload, nth_0, nth_s, ldA_a, ldI_i, x_iconst, x_iload, x_dupA, x_dupI, x_nil, g_177_0, g_177_77, g_177_134, g_177_194, g_177_254, g_177_314, g_177_374, g_177_434, g_177_494, g_177_554, g_177_614, g_177_674, g_177_734, g_177_794, g_177_859, g_177_932, g_177_1015, g_177_1094, g_177_1174]
  refine xb_ast h (by decide) (fun v1 h => ?_)
  try simp -implicitDefEqProofs only [x_aload, nth_0, nth_s, ldA_a, ldI_i, x_iconst, x_iload, x_dupA, x_dupI, x_nil, g_177_0, g_177_77, g_177_134, g_177_194, g_177_254, g_177_314, g_177_374, g_177_434, g_177_494, g_177_554, g_177_614, g_177_674, g_177_734, g_177_794, g_177_859, g_177_932, g_177_1015, g_177_1094, g_177_1174]
  refine xb_ast h (by decide) (fun v1 h => ?_)
  try simp -implicitDefEqProofs only [x_aload, nth_0, nth_s, ldA_a, ldI_i, x_iconst, x_iload, x_dupA, x_dupI, x_nil, g_177_0, g_177_77, g_177_134, g_177_194, g_177_254, g_177_314, g_177_374, g_177_434, g_177_494, g_177_554, g_177_614, g_177_674, g_177_734, g_177_794, g_177_859, g_177_932, g_177_1015, g_177_1094, g_177_1174]
  refine xb_ast h (by decide) (fun v1 h => ?_)
  try simp -implicitDefEqProofs only [x_aload, nth_0, nth_s, ldA_a, ldI_i, x_iconst, x_iload, x_dupA, x_dupI, x_nil, g_177_0, g_177_77, g_177_134, g_177_194, g_177_254, g_177_314, g_177_374, g_177_434, g_177_494, g_177_554, g_177_614, g_177_674, g_177_734, g_177_794, g_177_859, g_177_932, g_177_1015, g_177_1094, g_177_1174]
  refine xb_ast h (by decide) (fun v1 h => ?_)
  try simp -implicitDefEqProofs only [x_aload, nth_0, nth_s, ldA_a, ldI_i, x_iconst, x_iload, x_dupA, x_dupI, x_nil, g_177_0, g_177_77, g_177_134, g_177_194, g_177_254, g_177_314, g_177_374, g_177_434, g_177_494, g_177_554, g_177_614, g_177_674, g_177_734, g_177_794, g_177_859, g_177_932, g_177_1015, g_177_1094, g_177_1174]
  refine xb_ast h (by decide) (fun v1 h => ?_)
  try simp -implicitDefEqProofs only [x_aload, nth_0, nth_s, ldA_a, ldI_i, x_iconst, x_iload, x_dupA, x_dupI, x_nil, g_177_0, g_177_77, g_177_134, g_177_194, g_177_254, g_177_314, g_177_374, g_177_434, g_177_494, g_177_554, g_177_614, g_177_674, g_177_734, g_177_794, g_177_859, g_177_932, g_177_1015, g_177_1094, g_177_1174]
  refine xb_ast h (by decide) (fun v1 h => ?_)
  try simp -implicitDefEqProofs only [x_aload, nth_0, nth_s, ldA_a, ldI_i, x_iconst, x_iload, x_dupA, x_dupI, x_nil, g_177_0, g_177_77, g_177_134, g_177_194, g_177_254, g_177_314, g_177_374, g_177_434, g_177_494, g_177_554, g_177_614, g_177_674, g_177_734, g_177_794, g_177_859, g_177_932, g_177_1015, g_177_1094, g_177_1174]
  refine xb_ast h (by decide) (fun v1 h => ?_)
  try simp -implicitDefEqProofs only [x_aload, nth_0, nth_s, ldA_a, ldI_i, x_iconst, x_iload, x_dupA, x_dupI, x_nil, g_177_0, g_177_77, g_177_134, g_177_194, g_177_254, g_177_314, g_177_374, g_177_434, g_177_494, g_177_554, g_177_614, g_177_674, g_177_734, g_177_794, g_177_859, g_177_932, g_177_1015, g_177_1094, g_177_1174]
  refine xb_ast h (by decide) (fun v1 h => ?_)
  try simp -implicitDefEqProofs only [x_aload, nth_0, nth_s, ldA_a, ldI_i, x_iconst, x_iload, x_dupA, x_dupI, x_nil, g_177_0, g_177_77, g_177_134, g_177_194, g_177_254, g_177_314, g_177_374, g_177_434, g_177_494, g_177_554, g_177_614, g_177_674, g_177_734, g_177_794, g_177_859, g_177_932, g_177_1015, g_177_1094, g_177_1174]
  refine xb_ast h (by decide) (fun v1 h => ?_)
  try simp -implicitDefEqProofs only [x_aload, nth_0, nth_s, ldA_a, ldI_i, x_iconst, x_iload, x_dupA, x_dupI, x_nil, g_177_0, g_177_77, g_177_134, g_177_194, g_177_254, g_177_314, g_177_374, g_177_434, g_177_494, g_177_554, g_177_614, g_177_674, g_177_734, g_177_794, g_177_859, g_177_932, g_177_1015, g_177_1094, g_177_1174]
  refine xb_ast h (by decide) (fun v1 h => ?_)
  try simp -implicitDefEqProofs only [x_aload, nth_0, nth_s, ldA_a, ldI_i, x_iconst, x_iload, x_dupA, x_dupI, x_nil, g_177_0, g_177_77, g_177_134, g_177_194, g_177_254, g_177_314, g_177_374, g_177_434, g_177_494, g_177_554, g_177_614, g_177_674, g_177_734, g_177_794, g_177_859, g_177_932, g_177_1015, g_177_1094, g_177_1174]
  refine xb_ast h (by decide) (fun v1 h => ?_)
  try simp -implicitDefEqProofs only [x_aload, nth_0, nth_s, ldA_a, ldI_i, x_iconst, x_iload, x_dupA, x_dupI, x_nil, g_177_0, g_177_77, g_177_134, g_177_194, g_177_254, g_177_314, g_177_374, g_177_434, g_177_494, g_177_554, g_177_614, g_177_674, g_177_734, g_177_794, g_177_859, g_177_932, g_177_1015, g_177_1094, g_177_1174]
  refine xb_ast h (by decide) (fun v1 h => ?_)
  try simp -implicitDefEqProofs only [x_aload, nth_0, nth_s, ldA_a, ldI_i, x_iconst, x_iload, x_dupA, x_dupI, x_nil, g_177_0, g_177_77, g_177_134, g_177_194, g_177_254, g_177_314, g_177_374, g_177_434, g_177_494, g_177_554, g_177_614, g_177_674, g_177_734, g_177_794, g_177_859, g_177_932, g_177_1015, g_177_1094, g_177_1174]
  refine xb_ast h (by decide) (fun v1 h => ?_)
  try simp -implicitDefEqProofs only [x_aload, nth_0, nth_s, ldA_a, ldI_i, x_iconst, x_iload, x_dupA, x_dupI, x_nil, g_177_0, g_177_77, g_177_134, g_177_194, g_177_254, g_177_314, g_177_374, g_177_434, g_177_494, g_177_554, g_177_614, g_177_674, g_177_734, g_177_794, g_177_859, g_177_932, g_177_1015, g_177_1094, g_177_1174]
  refine xb_ast h (by decide) (fun v1 h => ?_)
  try simp -implicitDefEqProofs only [x_aload, nth_0, nth_s, ldA_a, ldI_i, x_iconst, x_iload, x_dupA, x_dupI, x_nil, g_177_0, g_177_77, g_177_134, g_177_194, g_177_254, g_177_314, g_177_374, g_177_434, g_177_494, g_177_554, g_177_614, g_177_674, g_177_734, g_177_794, g_177_859, g_177_932, g_177_1015, g_177_1094, g_177_1174]
  refine xb_ast h (by decide) (fun v1 h => ?_)
  try simp -implicitDefEqProofs only [x_aload, nth_0, nth_s, ldA_a, ldI_i, x_iconst, x_iload, x_dupA, x_dupI, x_nil, g_177_0, g_177_77, g_177_134, g_177_194, g_177_254, g_177_314, g_177_374, g_177_434, g_177_494, g_177_554, g_177_614, g_177_674, g_177_734, g_177_794, g_177_859, g_177_932, g_177_1015, g_177_1094, g_177_1174]
  refine xb_ast h (by decide) (fun v1 h => ?_)
  try simp -implicitDefEqProofs only [x_aload, nth_0, nth_s, ldA_a, ldI_i, x_iconst, x_iload, x_dupA, x_dupI, x_nil, g_177_0, g_177_77, g_177_134, g_177_194, g_177_254, g_177_314, g_177_374, g_177_434, g_177_494, g_177_554, g_177_614, g_177_674, g_177_734, g_177_794, g_177_859, g_177_932, g_177_1015, g_177_1094, g_177_1174]
  refine xb_ast h (by decide) (fun v1 h => ?_)
  try simp -implicitDefEqProofs only [x_aload, nth_0, nth_s, ldA_a, ldI_i, x_iconst, x_iload, x_dupA, x_dupI, x_nil, g_177_0, g_177_77, g_177_134, g_177_194, g_177_254, g_177_314, g_177_374, g_177_434, g_177_494, g_177_554, g_177_614, g_177_674, g_177_734, g_177_794, g_177_859, g_177_932, g_177_1015, g_177_1094, g_177_1174]
  refine xb_ast h (by decide) (fun v1 h => ?_)
  try simp -implicitDefEqProofs only [x_aload, nth_0, nth_s, ldA_a, ldI_i, x_iconst, x_iload, x_dupA, x_dupI, x_nil, g_177_0, g_177_77, g_177_134, g_177_194, g_177_254, g_177_314, g_177_374, g_177_434, g_177_494, g_177_554, g_177_614, g_177_674, g_177_734, g_177_794, g_177_859, g_177_932, g_177_1015, g_177_1094, g_177_1174]
  refine xb_ast h (by decide) (fun v1 h => ?_)
  try simp -implicitDefEqProofs only [x_aload, nth_0, nth_s, ldA_a, ldI_i, x_iconst, x_iload, x_dupA, x_dupI, x_nil, g_177_0, g_177_77, g_177_134, g_177_194, g_177_254, g_177_314, g_177_374, g_177_434, g_177_494, g_177_554, g_177_614, g_177_674, g_177_734, g_177_794, g_177_859, g_177_932, g_177_1015, g_177_1094, g_177_1174]
  refine xb_ast h (by decide) (fun v1 h => ?_)
  try simp -implicitDefEqProofs only [x_aload, nth_0, nth_s, ldA_a, ldI_i, x_iconst, x_iload, x_dupA, x_dupI, x_nil, g_177_0, g_177_77, g_177_134, g_177_194, g_177_254, g_177_314, g_177_374, g_177_434, g_177_494, g_177_554, g_177_614, g_177_674, g_177_734, g_177_794, g_177_859, g_177_932, g_177_1015, g_177_1094, g_177_1174]
  refine xb_ast h (by decide) (fun v1 h => ?_)
  try simp -implicitDefEqProofs only [x_aload, nth_0, nth_s, ldA_a, ldI_i, x_iconst, x_iload, x_dupA, x_dupI, x_nil, g_177_0, g_177_77, g_177_134, g_177_194, g_177_254, g_177_314, g_177_374, g_177_434, g_177_494, g_177_554, g_177_614, g_177_674, g_177_734, g_177_794, g_177_859, g_177_932, g_177_1015, g_177_1094, g_177_1174]
  refine xb_ast h (by decide) (fun v1 h => ?_)
  try simp -implicitDefEqProofs only [x_aload, nth_0, nth_s, ldA_a, ldI_i, x_iconst, x_iload, x_dupA, x_dupI, x_nil, g_177_0, g_177_77, g_177_134, g_177_194, g_177_254, g_177_314, g_177_374, g_177_434, g_177_494, g_177_554, g_177_614, g_177_674, g_177_734, g_177_794, g_177_859, g_177_932, g_177_1015, g_177_1094, g_177_1174]
  refine xb_ast h (by decide) (fun v1 h => ?_)
  try simp -implicitDefEqProofs only [x_aload, nth_0, nth_s, ldA_a, ldI_i, x_iconst, x_iload, x_dupA, x_dupI, x_nil, g_177_0, g_177_77, g_177_134, g_177_194, g_177_254, g_177_314, g_177_374, g_177_434, g_177_494, g_177_554, g_177_614, g_177_674, g_177_734, g_177_794, g_177_859, g_177_932, g_177_1015, g_177_1094, g_177_1174]
  refine xb_ast h (by decide) (fun v1 h => ?_)
  try simp -implicitDefEqProofs only [x_aload, nth_0, nth_s, ldA_a, ldI_i, x_iconst, x_iload, x_dupA, x_dupI, x_nil, g_177_0, g_177_77, g_177_134, g_177_194, g_177_254, g_177_314, g_177_374, g_177_434, g_177_494, g_177_554, g_177_614, g_177_674, g_177_734, g_177_794, g_177_859, g_177_932, g_177_1015, g_177_1094, g_177_1174]
  refine xb_ast h (by decide) (fun v1 h => ?_)
  try simp -implicitDefEqProofs only [x_aload, nth_0, nth_s, ldA_a, ldI_i, x_iconst, x_iload, x_dupA, x_dupI, x_nil, g_177_0, g_177_77, g_177_134, g_177_194, g_177_254, g_177_314, g_177_374, g_177_434, g_177_494, g_177_554, g_177_614, g_177_674, g_177_734, g_177_794, g_177_859, g_177_932, g_177_1015, g_177_1094, g_177_1174]
  refine xb_ast h (by decide) (fun v1 h => ?_)
  try simp -implicitDefEqProofs only [x_aload, nth_0, nth_s, ldA_a, ldI_i, x_iconst, x_iload, x_dupA, x_dupI, x_nil, g_177_0, g_177_77, g_177_134, g_177_194, g_177_254, g_177_314, g_177_374, g_177_434, g_177_494, g_177_554, g_177_614, g_177_674, g_177_734, g_177_794, g_177_859, g_177_932, g_177_1015, g_177_1094, g_177_1174]
  refine xb_ast h (by decide) (fun v1 h => ?_)
  try simp -implicitDefEqProofs only [x_aload, nth_0, nth_s, ldA_a, ldI_i, x_iconst, x_iload, x_dupA, x_dupI, x_nil, g_177_0, g_177_77, g_177_134, g_177_194, g_177_254, g_177_314, g_177_374, g_177_434, g_177_494, g_177_554, g_177_614, g_177_674, g_177_734, g_177_794, g_177_859, g_177_932, g_177_1015, g_177_1094, g_177_1174]
  refine xb_ast h (by decide) (fun v1 h => ?_)
  try simp -implicitDefEqProofs only [x_aload, nth_0, nth_s, ldA_a, ldI_i, x_iconst, x_iload, x_dupA, x_dupI, x_nil, g_177_0, g_177_77, g_177_134, g_177_194, g_177_254, g_177_314, g_177_374, g_177_434, g_177_494, g_177_554, g_177_614, g_177_674, g_177_734, g_177_794, g_177_859, g_177_932, g_177_1015, g_177_1094, g_177_1174]
  refine xb_ast h (by decide) (fun v1 h => ?_)
  try simp -implicitDefEqProofs only [x_aload, nth_0, nth_s, ldA_a, ldI_i, x_iconst, x_iload, x_dupA, x_dupI, x_nil, g_177_0, g_177_77, g_177_134, g_177_194, g_177_254, g_177_314, g_177_374, g_177_434, g_177_494, g_177_554, g_177_614, g_177_674, g_177_734, g_177_794, g_177_859, g_177_932, g_177_1015, g_177_1094, g_177_1174]
  refine xb_ast h (by decide) (fun v1 h => ?_)
  try simp -implicitDefEqProofs only [x_aload, nth_0, nth_s, ldA_a, ldI_i, x_iconst, x_iload, x_dupA, x_dupI, x_nil, g_177_0, g_177_77, g_177_134, g_177_194, g_177_254, g_177_314, g_177_374, g_177_434, g_177_494, g_177_554, g_177_614, g_177_674, g_177_734, g_177_794, g_177_859, g_177_932, g_177_1015, g_177_1094, g_177_1174]
  refine xb_ast h (by decide) (fun v1 h => ?_)
  try simp -implicitDefEqProofs only [x_aload, nth_0, nth_s, ldA_a, ldI_i, x_iconst, x_iload, x_dupA, x_dupI, x_nil, g_177_0, g_177_77, g_177_134, g_177_194, g_177_254, g_177_314, g_177_374, g_177_434, g_177_494, g_177_554, g_177_614, g_177_674, g_177_734, g_177_794, g_177_859, g_177_932, g_177_1015, g_177_1094, g_177_1174]
  refine xb_ast h (by decide) (fun v1 h => ?_)
  try simp -implicitDefEqProofs only [x_aload, nth_0, nth_s, ldA_a, ldI_i, x_iconst, x_iload, x_dupA, x_dupI, x_nil, g_177_0, g_177_77, g_177_134, g_177_194, g_177_254, g_177_314, g_177_374, g_177_434, g_177_494, g_177_554, g_177_614, g_177_674, g_177_734, g_177_794, g_177_859, g_177_932, g_177_1015, g_177_1094, g_177_1174]
  refine xb_ast h (by decide) (fun v1 h => ?_)
  try simp -implicitDefEqProofs only [x_aload, nth_0, nth_s, ldA_a, ldI_i, x_iconst, x_iload, x_dupA, x_dupI, x_nil, g_177_0, g_177_77, g_177_134, g_177_194, g_177_254, g_177_314, g_177_374, g_177_434, g_177_494, g_177_554, g_177_614, g_177_674, g_177_734, g_177_794, g_177_859, g_177_932, g_177_1015, g_177_1094, g_177_1174]
  refine xb_ast h (by decide) (fun v1 h => ?_)
  try simp -implicitDefEqProofs only [x_aload, nth_0, nth_s, ldA_a, ldI_i, x_iconst, x_iload, x_dupA, x_dupI, x_nil, g_177_0, g_177_77, g_177_134, g_177_194, g_177_254, g_177_314, g_177_374, g_177_434, g_177_494, g_177_554, g_177_614, g_177_674, g_177_734, g_177_794, g_177_859, g_177_932, g_177_1015, g_177_1094, g_177_1174]
  refine xb_ast h (by decide) (fun v1 h => ?_)
  try simp -implicitDefEqProofs only [x_aload, nth_0, nth_s, ldA_a, ldI_i, x_iconst, x_iload, x_dupA, x_dupI, x_nil, g_177_0, g_177_77, g_177_134, g_177_194, g_177_254, g_177_314, g_177_374, g_177_434, g_177_494, g_177_554, g_177_614, g_177_674, g_177_734, g_177_794, g_177_859, g_177_932, g_177_1015, g_177_1094, g_177_1174]
  refine xb_ast h (by decide) (fun v1 h => ?_)
  try simp -implicitDefEqProofs only [x_aload, nth_0, nth_s, ldA_a, ldI_i, x_iconst, x_iload, x_dupA, x_dupI, x_nil, g_177_0, g_177_77, g_177_134, g_177_194, g_177_254, g_177_314, g_177_374, g_177_434, g_177_494, g_177_554, g_177_614, g_177_674, g_177_734, g_177_794, g_177_859, g_177_932, g_177_1015, g_177_1094, g_177_1174]
  refine xb_ast h (by decide) (fun v1 h => ?_)
  try simp -implicitDefEqProofs only [x_aload, nth_0, nth_s, ldA_a, ldI_i, x_iconst, x_iload, x_dupA, x_dupI, x_nil, g_177_0, g_177_77, g_177_134, g_177_194, g_177_254, g_177_314, g_177_374, g_177_434, g_177_494, g_177_554, g_177_614, g_177_674, g_177_734, g_177_794, g_177_859, g_177_932, g_177_1015, g_177_1094, g_177_1174]
  refine xb_ast h (by decide) (fun v1 h => ?_)
  try simp -implicitDefEqProofs only [x_aload, nth_0, nth_s, ldA_a, ldI_i, x_iconst, x_iload, x_dupA, x_dupI, x_nil, g_177_0, g_177_77, g_177_134, g_177_194, g_177_254, g_177_314, g_177_374, g_177_434, g_177_494, g_177_554, g_177_614, g_177_674, g_177_734, g_177_794, g_177_859, g_177_932, g_177_1015, g_177_1094, g_177_1174]
  refine xb_ast h (by decide) (fun v1 h => ?_)
  try simp -implicitDefEqProofs only [x_aload, nth_0, nth_s, ldA_a, ldI_i, x_iconst, x_iload, x_dupA, x_dupI, x_nil, g_177_0, g_177_77, g_177_134, g_177_194, g_177_254, g_177_314, g_177_374, g_177_434, g_177_494, g_177_554, g_177_614, g_177_674, g_177_734, g_177_794, g_177_859, g_177_932, g_177_1015, g_177_1094, g_177_1174]
  refine xb_ast h (by decide) (fun v1 h => ?_)
  try simp -implicitDefEqProofs only [x_aload, nth_0, nth_s, ldA_a, ldI_i, x_iconst, x_iload, x_dupA, x_dupI, x_nil, g_177_0, g_177_77, g_177_134, g_177_194, g_177_254, g_177_314, g_177_374, g_177_434, g_177_494, g_177_554, g_177_614, g_177_674, g_177_734, g_177_794, g_177_859, g_177_932, g_177_1015, g_177_1094, g_177_1174]
  refine xb_ast h (by decide) (fun v1 h => ?_)
  try simp -implicitDefEqProofs only [x_aload, nth_0, nth_s, ldA_a, ldI_i, x_iconst, x_iload, x_dupA, x_dupI, x_nil, g_177_0, g_177_77, g_177_134, g_177_194, g_177_254, g_177_314, g_177_374, g_177_434, g_177_494, g_177_554, g_177_614, g_177_674, g_177_734, g_177_794, g_177_859, g_177_932, g_177_1015, g_177_1094, g_177_1174]
  refine xb_ast h (by decide) (fun v1 h => ?_)
  try simp -implicitDefEqProofs only [x_aload, nth_0, nth_s, ldA_a, ldI_i, x_iconst, x_iload, x_dupA, x_dupI, x_nil, g_177_0, g_177_77, g_177_134, g_177_194, g_177_254, g_177_314, g_177_374, g_177_434, g_177_494, g_177_554, g_177_614, g_177_674, g_177_734, g_177_794, g_177_859, g_177_932, g_177_1015, g_177_1094, g_177_1174]
  refine xb_ast h (by decide) (fun v1 h => ?_)
  try simp -implicitDefEqProofs only [x_aload, nth_0, nth_s, ldA_a, ldI_i, x_iconst, x_iload, x_dupA, x_dupI, x_nil, g_177_0, g_177_77, g_177_134, g_177_194, g_177_254, g_177_314, g_177_374, g_177_434, g_177_494, g_177_554, g_177_614, g_177_674, g_177_734, g_177_794, g_177_859, g_177_932, g_177_1015, g_177_1094, g_177_1174]
  refine xb_ast h (by decide) (fun v1 h => ?_)
  try simp -implicitDefEqProofs only [x_aload, nth_0, nth_s, ldA_a, ldI_i, x_iconst, x_iload, x_dupA, x_dupI, x_nil, g_177_0, g_177_77, g_177_134, g_177_194, g_177_254, g_177_314, g_177_374, g_177_434, g_177_494, g_177_554, g_177_614, g_177_674, g_177_734, g_177_794, g_177_859, g_177_932, g_177_1015, g_177_1094, g_177_1174]
  refine xb_ast h (by decide) (fun v1 h => ?_)
  try simp -implicitDefEqProofs only [x_aload, nth_0, nth_s, ldA_a, ldI_i, x_iconst, x_iload, x_dupA, x_dupI, x_nil, g_177_0, g_177_77, g_177_134, g_177_194, g_177_254, g_177_314, g_177_374, g_177_434, g_177_494, g_177_554, g_177_614, g_177_674, g_177_734, g_177_794, g_177_859, g_177_932, g_177_1015, g_177_1094, g_177_1174]
  refine xb_ast h (by decide) (fun v1 h => ?_)
  try simp -implicitDefEqProofs only [x_aload, nth_0, nth_s, ldA_a, ldI_i, x_iconst, x_iload, x_dupA, x_dupI, x_nil, g_177_0, g_177_77, g_177_134, g_177_194, g_177_254, g_177_314, g_177_374, g_177_434, g_177_494, g_177_554, g_177_614, g_177_674, g_177_734, g_177_794, g_177_859, g_177_932, g_177_1015, g_177_1094, g_177_1174]
  refine xb_ast h (by decide) (fun v1 h => ?_)
  try simp -implicitDefEqProofs only [x_aload, nth_0, nth_s, ldA_a, ldI_i, x_iconst, x_iload, x_dupA, x_dupI, x_nil, g_177_0, g_177_77, g_177_134, g_177_194, g_177_254, g_177_314, g_177_374, g_177_434, g_177_494, g_177_554, g_177_614, g_177_674, g_177_734, g_177_794, g_177_859, g_177_932, g_177_1015, g_177_1094, g_177_1174]
  refine xb_ast h (by decide) (fun v1 h => ?_)
  try simp -implicitDefEqProofs only [x_aload, nth_0, nth_s, ldA_a, ldI_i, x_iconst, x_iload, x_dupA, x_dupI, x_nil, g_177_0, g_177_77, g_177_134, g_177_194, g_177_254, g_177_314, g_177_374, g_177_434, g_177_494, g_177_554, g_177_614, g_177_674, g_177_734, g_177_794, g_177_859, g_177_932, g_177_1015, g_177_1094, g_177_1174]
  refine xb_ast h (by decide) (fun v1 h => ?_)
  try simp -implicitDefEqProofs only [x_aload, nth_0, nth_s, ldA_a, ldI_i, x_iconst, x_iload, x_dupA, x_dupI, x_nil, g_177_0, g_177_77, g_177_134, g_177_194, g_177_254, g_177_314, g_177_374, g_177_434, g_177_494, g_177_554, g_177_614, g_177_674, g_177_734, g_177_794, g_177_859, g_177_932, g_177_1015, g_177_1094, g_177_1174]
  refine xb_ast h (by decide) (fun v1 h => ?_)
  try simp -implicitDefEqProofs only [x_aload, nth_0, nth_s, ldA_a, ldI_i, x_iconst, x_iload, x_dupA, x_dupI, x_nil, g_177_0, g_177_77, g_177_134, g_177_194, g_177_254, g_177_314, g_177_374, g_177_434, g_177_494, g_177_554, g_177_614, g_177_674, g_177_734, g_177_794, g_177_859, g_177_932, g_177_1015, g_177_1094, g_177_1174]
  refine xb_ast h (by decide) (fun v1 h => ?_)
  try simp -implicitDefEqProofs only [x_aload, nth_0, nth_s, ldA_a, ldI_i, x_iconst, x_iload, x_dupA, x_dupI, x_nil, g_177_0, g_177_77, g_177_134, g_177_194, g_177_254, g_177_314, g_177_374, g_177_434, g_177_494, g_177_554, g_177_614, g_177_674, g_177_734, g_177_794, g_177_859, g_177_932, g_177_1015, g_177_1094, g_177_1174]
  refine xb_ast h (by decide) (fun v1 h => ?_)
  try simp -implicitDefEqProofs only [x_aload, nth_0, nth_s, ldA_a, ldI_i, x_iconst, x_iload, x_dupA, x_dupI, x_nil, g_177_0, g_177_77, g_177_134, g_177_194, g_177_254, g_177_314, g_177_374, g_177_434, g_177_494, g_177_554, g_177_614, g_177_674, g_177_734, g_177_794, g_177_859, g_177_932, g_177_1015, g_177_1094, g_177_1174]
  refine xb_ast h (by decide) (fun v1 h => ?_)
  try simp -implicitDefEqProofs only [x_aload, nth_0, nth_s, ldA_a, ldI_i, x_iconst, x_iload, x_dupA, x_dupI, x_nil, g_177_0, g_177_77, g_177_134, g_177_194, g_177_254, g_177_314, g_177_374, g_177_434, g_177_494, g_177_554, g_177_614, g_177_674, g_177_734, g_177_794, g_177_859, g_177_932, g_177_1015, g_177_1094, g_177_1174]
  refine xb_ast h (by decide) (fun v1 h => ?_)
  try simp -implicitDefEqProofs only [x_aload, nth_0, nth_s, ldA_a, ldI_i, x_iconst, x_iload, x_dupA, x_dupI, x_nil, g_177_0, g_177_77, g_177_134, g_177_194, g_177_254, g_177_314, g_177_374, g_177_434, g_177_494, g_177_554, g_177_614, g_177_674, g_177_734, g_177_794, g_177_859, g_177_932, g_177_1015, g_177_1094, g_177_1174]
  refine xb_ast h (by decide) (fun v1 h => ?_)
  try simp -implicitDefEqProofs only [x_aload, nth_0, nth_s, ldA_a, ldI_i, x_iconst, x_iload, x_dupA, x_dupI, x_nil, g_177_0, g_177_77, g_177_134, g_177_194, g_177_254, g_177_314, g_177_374, g_177_434, g_177_494, g_177_554, g_177_614, g_177_674, g_177_734, g_177_794, g_177_859, g_177_932, g_177_1015, g_177_1094, g_177_1174]
  refine xb_ast h (by decide) (fun v1 h => ?_)
  try simp -implicitDefEqProofs only [x_aload, nth_0, nth_s, ldA_a, ldI_i, x_iconst, x_iload, x_dupA, x_dupI, x_nil, g_177_0, g_177_77, g_177_134, g_177_194, g_177_254, g_177_314, g_177_374, g_177_434, g_177_494, g_177_554, g_177_614, g_177_674, g_177_734, g_177_794, g_177_859, g_177_932, g_177_1015, g_177_1094, g_177_1174]
  refine xb_ast h (by decide) (fun v1 h => ?_)
  try simp -implicitDefEqProofs only [x_aload, nth_0, nth_s, ldA_a, ldI_i, x_iconst, x_iload, x_dupA, x_dupI, x_nil, g_177_0, g_177_77, g_177_134, g_177_194, g_177_254, g_177_314, g_177_374, g_177_434, g_177_494, g_177_554, g_177_614, g_177_674, g_177_734, g_177_794, g_177_859, g_177_932, g_177_1015, g_177_1094, g_177_1174]
  refine xb_ast h (by decide) (fun v1 h => ?_)
  try simp -implicitDefEqProofs only [x_aload, nth_0, nth_s, ldA_a, ldI_i, x_iconst, x_iload, x_dupA, x_dupI, x_nil, g_177_0, g_177_77, g_177_134, g_177_194, g_177_254, g_177_314, g_177_374, g_177_434, g_177_494, g_177_554, g_177_614, g_177_674, g_177_734, g_177_794, g_177_859, g_177_932, g_177_1015, g_177_1094, g_177_1174]
  refine xb_ast h (by decide) (fun v1 h => ?_)
  try simp -implicitDefEqProofs only [x_aload, nth_0, nth_s, ldA_a, ldI_i, x_iconst, x_iload, x_dupA, x_dupI, x_nil, g_177_0, g_177_77, g_177_134, g_177_194, g_177_254, g_177_314, g_177_374, g_177_434, g_177_494, g_177_554, g_177_614, g_177_674, g_177_734, g_177_794, g_177_859, g_177_932, g_177_1015, g_177_1094, g_177_1174]
  refine xb_ast h (by decide) (fun v1 h => ?_)
  try simp -implicitDefEqProofs only [x_aload, nth_0, nth_s, ldA_a, ldI_i, x_iconst, x_iload, x_dupA, x_dupI, x_nil, g_177_0, g_177_77, g_177_134, g_177_194, g_177_254, g_177_314, g_177_374, g_177_434, g_177_494, g_177_554, g_177_614, g_177_674, g_177_734, g_177_794, g_177_859, g_177_932, g_177_1015, g_177_1094, g_177_1174]
  refine xb_ast h (by decide) (fun v1 h => ?_)
  try simp -implicitDefEqProofs only [x_aload, nth_0, nth_s, ldA_a, ldI_i, x_iconst, x_iload, x_dupA, x_dupI, x_nil, g_177_0, g_177_77, g_177_134, g_177_194, g_177_254, g_177_314, g_177_374, g_177_434, g_177_494, g_177_554, g_177_614, g_177_674, g_177_734, g_177_794, g_177_859, g_177_932, g_177_1015, g_177_1094, g_177_1174]
  refine xb_ast h (by decide) (fun v1 h => ?_)
  try simp -implicitDefEqProofs only [x_aload, nth_0, nth_s, ldA_a, ldI_i, x_iconst, x_iload, x_dupA, x_dupI, x_nil, g_177_0, g_177_77, g_177_134, g_177_194, g_177_254, g_177_314, g_177_374, g_177_434, g_177_494, g_177_554, g_177_614, g_177_674, g_177_734, g_177_794, g_177_859, g_177_932, g_177_1015, g_177_1094, g_177_1174]
  refine xb_ast h (by decide) (fun v1 h => ?_)
  try simp -implicitDefEqProofs only [x_aload, nth_0, nth_s, ldA_a, ldI_i, x_iconst, x_iload, x_dupA, x_dupI, x_nil, g_177_0, g_177_77, g_177_134, g_177_194, g_177_254, g_177_314, g_177_374, g_177_434, g_177_494, g_177_554, g_177_614, g_177_674, g_177_734, g_177_794, g_177_859, g_177_932, g_177_1015, g_177_1094, g_177_1174]
  refine xb_ast h (by decide) (fun v1 h => ?_)
  try simp -implicitDefEqProofs only [x_aload, nth_0, nth_s, ldA_a, ldI_i, x_iconst, x_iload, x_dupA, x_dupI, x_nil, g_177_0, g_177_77, g_177_134, g_177_194, g_177_254, g_177_314, g_177_374, g_177_434, g_177_494, g_177_554, g_177_614, g_177_674, g_177_734, g_177_794, g_177_859, g_177_932, g_177_1015, g_177_1094, g_177_1174]
  refine xb_ast h (by decide) (fun v1 h => ?_)
  try simp -implicitDefEqProofs only [x_aload, nth_0, nth_s, ldA_a, ldI_i, x_iconst, x_iload, x_dupA, x_dupI, x_nil, g_177_0, g_177_77, g_177_134, g_177_194, g_177_254, g_177_314, g_177_374, g_177_434, g_177_494, g_177_554, g_177_614, g_177_674, g_177_734, g_177_794, g_177_859, g_177_932, g_177_1015, g_177_1094, g_177_1174]
  refine xb_ast h (by decide) (fun v1 h => ?_)
  try simp -implicitDefEqProofs only [x_aload, nth_0, nth_s, ldA_a, ldI_i, x_iconst, x_iload, x_dupA, x_dupI, x_nil, g_177_0, g_177_77, g_177_134, g_177_194, g_177_254, g_177_314, g_177_374, g_177_434, g_177_494, g_177_554, g_177_614, g_177_674, g_177_734, g_177_794, g_177_859, g_177_932, g_177_1015, g_177_1094, g_177_1174]
  refine xb_ast h (by decide) (fun v1 h => ?_)
  try simp -implicitDefEqProofs only [x_aload, nth_0, nth_s, ldA_a, ldI_i, x_iconst, x_iload, x_dupA, x_dupI, x_nil, g_177_0, g_177_77, g_177_134, g_177_194, g_177_254, g_177_314, g_177_374, g_177_434, g_177_494, g_177_554, g_177_614, g_177_674, g_177_734, g_177_794, g_177_859, g_177_932, g_177_1015, g_177_1094, g_177_1174]
  refine xb_ast h (by decide) (fun v1 h => ?_)
  try simp -implicitDefEqProofs only [x_aload, nth_0, nth_s, ldA_a, ldI_i, x_iconst, x_iload, x_dupA, x_dupI, x_nil, g_177_0, g_177_77, g_177_134, g_177_194, g_177_254, g_177_314, g_177_374, g_177_434, g_177_494, g_177_554, g_177_614, g_177_674, g_177_734, g_177_794, g_177_859, g_177_932, g_177_1015, g_177_1094, g_177_1174]
  refine xb_ast h (by decide) (fun v1 h => ?_)
  try simp -implicitDefEqProofs only [x_aload, nth_0, nth_s, ldA_a, ldI_i, x_iconst, x_iload, x_dupA, x_dupI, x_nil, g_177_0, g_177_77, g_177_134, g_177_194, g_177_254, g_177_314, g_177_374, g_177_434, g_177_494, g_177_554, g_177_614, g_177_674, g_177_734, g_177_794, g_177_859, g_177_932, g_177_1015, g_177_1094, g_177_1174]
  refine xb_ast h (by decide) (fun v1 h => ?_)
  try simp -implicitDefEqProofs only [x_aload, nth_0, nth_s, ldA_a, ldI_i, x_iconst, x_iload, x_dupA, x_dupI, x_nil, g_177_0, g_177_77, g_177_134, g_177_194, g_177_254, g_177_314, g_177_374, g_177_434, g_177_494, g_177_554, g_177_614, g_177_674, g_177_734, g_177_794, g_177_859, g_177_932, g_177_1015, g_177_1094, g_177_1174]
  refine xb_ast h (by decide) (fun v1 h => ?_)
  try simp -implicitDefEqProofs only [x_aload, nth_0, nth_s, ldA_a, ldI_i, x_iconst, x_iload, x_dupA, x_dupI, x_nil, g_177_0, g_177_77, g_177_134, g_177_194, g_177_254, g_177_314, g_177_374, g_177_434, g_177_494, g_177_554, g_177_614, g_177_674, g_177_734, g_177_794, g_177_859, g_177_932, g_177_1015, g_177_1094, g_177_1174]
  refine xb_ast h (by decide) (fun v1 h => ?_)
  try simp -implicitDefEqProofs only [x_aload, nth_0, nth_s, ldA_a, ldI_i, x_iconst, x_iload, x_dupA, x_dupI, x_nil, g_177_0, g_177_77, g_177_134, g_177_194, g_177_254, g_177_314, g_177_374, g_177_434, g_177_494, g_177_554, g_177_614, g_177_674, g_177_734, g_177_794, g_177_859, g_177_932, g_177_1015, g_177_1094, g_177_1174]
  refine xb_ast h (by decide) (fun v1 h => ?_)
  try simp -implicitDefEqProofs only [x_aload, nth_0, nth_s, ldA_a, ldI_i, x_iconst, x_iload, x_dupA, x_dupI, x_nil, g_177_0, g_177_77, g_177_134, g_177_194, g_177_254, g_177_314, g_177_374, g_177_434, g_177_494, g_177_554, g_177_614, g_177_674, g_177_734, g_177_794, g_177_859, g_177_932, g_177_1015, g_177_1094, g_177_1174]
  refine xb_ast h (by decide) (fun v1 h => ?_)
  try simp -implicitDefEqProofs only [x_aload, nth_0, nth_s, ldA_a, ldI_i, x_iconst, x_iload, x_dupA, x_dupI, x_nil, g_177_0, g_177_77, g_177_134, g_177_194, g_177_254, g_177_314, g_177_374, g_177_434, g_177_494, g_177_554, g_177_614, g_177_674, g_177_734, g_177_794, g_177_859, g_177_932, g_177_1015, g_177_1094, g_177_1174]
  refine xb_ast h (by decide) (fun v1 h => ?_)
  try simp -implicitDefEqProofs only [x_aload, nth_0, nth_s, ldA_a, ldI_i, x_iconst, x_iload, x_dupA, x_dupI, x_nil, g_177_0, g_177_77, g_177_134, g_177_194, g_177_254, g_177_314, g_177_374, g_177_434, g_177_494, g_177_554, g_177_614, g_177_674, g_177_734, g_177_794, g_177_859, g_177_932, g_177_1015, g_177_1094, g_177_1174]
  refine xb_ast h (by decide) (fun v1 h => ?_)
  try simp -implicitDefEqProofs only [x_aload, nth_0, nth_s, ldA_a, ldI_i, x_iconst, x_iload, x_dupA, x_dupI, x_nil, g_177_0, g_177_77, g_177_134, g_177_194, g_177_254, g_177_314, g_177_374, g_177_434, g_177_494, g_177_554, g_177_614, g_177_674, g_177_734, g_177_794, g_177_859, g_177_932, g_177_1015, g_177_1094, g_177_1174]
  refine xb_ast h (by decide) (fun v1 h => ?_)
  try simp -implicitDefEqProofs only [x_aload, nth_0, nth_s, ldA_a, ldI_i, x_iconst, x_iload, x_dupA, x_dupI, x_nil, g_177_0, g_177_77, g_177_134, g_177_194, g_177_254, g_177_314, g_177_374, g_177_434, g_177_494, g_177_554, g_177_614, g_177_674, g_177_734, g_177_794, g_177_859, g_177_932, g_177_1015, g_177_1094, g_177_1174]
  refine xb_ast h (by decide) (fun v1 h => ?_)
  try simp -implicitDefEqProofs only [x_aload, nth_0, nth_s, ldA_a, ldI_i, x_iconst, x_iload, x_dupA, x_dupI, x_nil, g_177_0, g_177_77, g_177_134, g_177_194, g_177_254, g_177_314, g_177_374, g_177_434, g_177_494, g_177_554, g_177_614, g_177_674, g_177_734, g_177_794, g_177_859, g_177_932, g_177_1015, g_177_1094, g_177_1174]
  refine xb_ast h (by decide) (fun v1 h => ?_)
  try simp -implicitDefEqProofs only [x_aload, nth_0, nth_s, ldA_a, ldI_i, x_iconst, x_iload, x_dupA, x_dupI, x_nil, g_177_0, g_177_77, g_177_134, g_177_194, g_177_254, g_177_314, g_177_374, g_177_434, g_177_494, g_177_554, g_177_614, g_177_674, g_177_734, g_177_794, g_177_859, g_177_932, g_177_1015, g_177_1094, g_177_1174]
  refine xb_ast h (by decide) (fun v1 h => ?_)
  try simp -implicitDefEqProofs only [x_aload, nth_0, nth_s, ldA_a, ldI_i, x_iconst, x_iload, x_dupA, x_dupI, x_nil, g_177_0, g_177_77, g_177_134, g_177_194, g_177_254, g_177_314, g_177_374, g_177_434, g_177_494, g_177_554, g_177_614, g_177_674, g_177_734, g_177_794, g_177_859, g_177_932, g_177_1015, g_177_1094, g_177_1174]
  refine xb_ast h (by decide) (fun v1 h => ?_)
  try simp -implicitDefEqProofs only [x_aload, nth_0, nth_s, ldA_a, ldI_i, x_iconst, x_iload, x_dupA, x_dupI, x_nil, g_177_0, g_177_77, g_177_134, g_177_194, g_177_254, g_177_314, g_177_374, g_177_434, g_177_494, g_177_554, g_177_614, g_177_674, g_177_734, g_177_794, g_177_859, g_177_932, g_177_1015, g_177_1094, g_177_1174]
  refine xb_ast h (by decide) (fun v1 h => ?_)
  try simp -implicitDefEqProofs only [x_aload, nth_0, nth_s, ldA_a, ldI_i, x_iconst, x_iload, x_dupA, x_dupI, x_nil, g_177_0, g_177_77, g_177_134, g_177_194, g_177_254, g_177_314, g_177_374, g_177_434, g_177_494, g_177_554, g_177_614, g_177_674, g_177_734, g_177_794, g_177_859, g_177_932, g_177_1015, g_177_1094, g_177_1174]
  refine xb_ast h (by decide) (fun v1 h => ?_)
  try simp -implicitDefEqProofs only [x_aload, nth_0, nth_s, ldA_a, ldI_i, x_iconst, x_iload, x_dupA, x_dupI, x_nil, g_177_0, g_177_77, g_177_134, g_177_194, g_177_254, g_177_314, g_177_374, g_177_434, g_177_494, g_177_554, g_177_614, g_177_674, g_177_734, g_177_794, g_177_859, g_177_932, g_177_1015, g_177_1094, g_177_1174]
  refine xb_ast h (by decide) (fun v1 h => ?_)
  try simp -implicitDefEqProofs only [x_aload, nth_0, nth_s, ldA_a, ldI_i, x_iconst, x_iload, x_dupA, x_dupI, x_nil, g_177_0, g_177_77, g_177_134, g_177_194, g_177_254, g_177_314, g_177_374, g_177_434, g_177_494, g_177_554, g_177_614, g_177_674, g_177_734, g_177_794, g_177_859, g_177_932, g_177_1015, g_177_1094, g_177_1174]
  refine xb_ast h (by decide) (fun v1 h => ?_)
  try simp -implicitDefEqProofs only [x_aload, nth_0, nth_s, ldA_a, ldI_i, x_iconst, x_iload, x_dupA, x_dupI, x_nil, g_177_0, g_177_77, g_177_134, g_177_194, g_177_254, g_177_314, g_177_374, g_177_434, g_177_494, g_177_554, g_177_614, g_177_674, g_177_734, g_177_794, g_177_859, g_177_932, g_177_1015, g_177_1094, g_177_1174]
  refine xb_ast h (by decide) (fun v1 h => ?_)
  try simp -implicitDefEqProofs only [x_aload, nth_0, nth_s, ldA_a, ldI_i, x_iconst, x_iload, x_dupA, x_dupI, x_nil, g_177_0, g_177_77, g_177_134, g_177_194, g_177_254, g_177_314, g_177_374, g_177_434, g_177_494, g_177_554, g_177_614, g_177_674, g_177_734, g_177_794, g_177_859, g_177_932, g_177_1015, g_177_1094, g_177_1174]
  refine xb_ast h (by decide) (fun v1 h => ?_)
  refine xb_putR h (by decide) (fun z1 h => ?_)
  try simp -implicitDefEqProofs only [x_aload, nth_0, nth_s, ldA_a, ldI_i, x_iconst, x_iload, x_dupA, x_dupI, x_nil, g_177_0, g_177_77, g_177_134, g_177_194, g_177_254, g_177_314, g_177_374, g_177_434, g_177_494, g_177_554, g_177_614, g_177_674, g_177_734, g_177_794, g_177_859, g_177_932, g_177_1015, g_177_1094, g_177_1174]
  refine xb_newI h (by decide) (fun z1 v1 h => ?_)
  refine xb_putR h (by decide) (fun z1 h => ?_)
  try simp -implicitDefEqProofs only [x_aload, nth_0, nth_s, ldA_a, ldI_i, x_iconst, x_iload, x_dupA, x_dupI, x_nil, g_177_0, g_177_77, g_177_134, g_177_194, g_177_254, g_177_314, g_177_374, g_177_434, g_177_494, g_177_554, g_177_614, g_177_674, g_177_734, g_177_794, g_177_859, g_177_932, g_177_1015, g_177_1094, g_177_1174]
  refine xb_newI h (by decide) (fun z1 v1 h => ?_)
  refine xb_putR h (by decide) (fun z1 h => ?_)
  try simp -implicitDefEqProofs only [x_aload, nth_0, nth_s, ldA_a, ldI_i, x_iconst, x_iload, x_dupA, x_dupI, x_nil, g_177_0, g_177_77, g_177_134, g_177_194, g_177_254, g_177_314, g_177_374, g_177_434, g_177_494, g_177_554, g_177_614, g_177_674, g_177_734, g_177_794, g_177_859, g_177_932, g_177_1015, g_177_1094, g_177_1174]
  refine xb_newI h (by decide) (fun z1 v1 h => ?_)
  refine xb_putR h (by decide) (fun z1 h => ?_)
  try simp -implicitDefEqProofs only [x_aload, nth_0, nth_s, ldA_a, ldI_i, x_iconst, x_iload, x_dupA, x_dupI, x_nil, g_177_0, g_177_77, g_177_134, g_177_194, g_177_254, g_177_314, g_177_374, g_177_434, g_177_494, g_177_554, g_177_614, g_177_674, g_177_734, g_177_794, g_177_859, g_177_932, g_177_1015, g_177_1094, g_177_1174]
  refine xb_newI h (by decide) (fun z1 v1 h => ?_)
  refine xb_putR h (by decide) (fun z1 h => ?_)
  try simp -implicitDefEqProofs only [x_aload, nth_0, nth_s, ldA_a, ldI_i, x_iconst, x_iload, x_dupA, x_dupI, x_nil, g_177_0, g_177_77, g_177_134, g_177_194, g_177_254, g_177_314, g_177_374, g_177_434, g_177_494, g_177_554, g_177_614, g_177_674, g_177_734, g_177_794, g_177_859, g_177_932, g_177_1015, g_177_1094, g_177_1174]
  refine xb_newI h (by decide) (fun z1 v1 h => ?_)
  refine xb_putR h (by decide) (fun z1 h => ?_)
  try simp -implicitDefEqProofs only [x_aload, nth_0, nth_s, ldA_a, ldI_i, x_iconst, x_iload, x_dupA, x_dupI, x_nil, g_177_0, g_177_77, g_177_134, g_177_194, g_177_254, g_177_314, g_177_374, g_177_434, g_177_494, g_177_554, g_177_614, g_177_674, g_177_734, g_177_794, g_177_859, g_177_932, g_177_1015, g_177_1094, g_177_1174]
  refine xb_newI h (by decide) (fun z1 v1 h => ?_)
  refine xb_putR h (by decide) (fun z1 h => ?_)
  try simp -implicitDefEqProofs only [x_aload, nth_0, nth_s, ldA_a, ldI_i, x_iconst, x_iload, x_dupA, x_dupI, x_nil, g_177_0, g_177_77, g_177_134, g_177_194, g_177_254, g_177_314, g_177_374, g_177_434, g_177_494, g_177_554, g_177_614, g_177_674, g_177_734, g_177_794, g_177_859, g_177_932, g_177_1015, g_177_1094, g_177_1174]
  refine xb_newI h (by decide) (fun z1 v1 h => ?_)
  refine xb_putR h (by decide) (fun z1 h => ?_)
  try simp -implicitDefEqProofs only [x_aload, nth_0, nth_s, ldA_a, ldI_i, x_iconst, x_iload, x_dupA, x_dupI, x_nil, g_177_0, g_177_77, g_177_134, g_177_194, g_177_254, g_177_314, g_177_374, g_177_434, g_177_494, g_177_554, g_177_614, g_177_674, g_177_734, g_177_794, g_177_859, g_177_932, g_177_1015, g_177_1094, g_177_1174]
  refine xb_newI h (by decide) (fun z1 v1 h => ?_)
  refine xb_putR h (by decide) (fun z1 h => ?_)
  try simp -implicitDefEqProofs only [x_aload, nth_0, nth_s, ldA_a, ldI_i, x_iconst, x_iload, x_dupA, x_dupI, x_nil, g_177_0, g_177_77, g_177_134, g_177_194, g_177_254, g_177_314, g_177_374, g_177_434, g_177_494, g_177_554, g_177_614, g_177_674, g_177_734, g_177_794, g_177_859, g_177_932, g_177_1015, g_177_1094, g_177_1174]
  refine xb_putI h (by decide) (fun v1 h => ?_)
  try simp -implicitDefEqProofs only [x_aload, nth_0, nth_s, ldA_a, ldI_i, x_iconst, x_iload, x_dupA, x_dupI, x_nil, g_177_0, g_177_77, g_177_134, g_177_194, g_177_254, g_177_314, g_177_374, g_177_434, g_177_494, g_177_554, g_177_614, g_177_674, g_177_734, g_177_794, g_177_859, g_177_932, g_177_1015, g_177_1094, g_177_1174]
  refine xb_newI h (by decide) (fun z1 v1 h => ?_)
  refine xb_putR h (by decide) (fun z1 h => ?_)
  try simp -implicitDefEqProofs only [x_aload, nth_0, nth_s, ldA_a, ldI_i, x_iconst, x_iload, x_dupA, x_dupI, x_nil, g_177_0, g_177_77, g_177_134, g_177_194, g_177_254, g_177_314, g_177_374, g_177_434, g_177_494, g_177_554, g_177_614, g_177_674, g_177_734, g_177_794, g_177_859, g_177_932, g_177_1015, g_177_1094, g_177_1174]
  refine xb_newI h (by decide) (fun z1 v1 h => ?_)
  refine xb_putR h (by decide) (fun z1 h => ?_)
  try simp -implicitDefEqProofs only [x_aload, nth_0, nth_s, ldA_a, ldI_i, x_iconst, x_iload, x_dupA, x_dupI, x_nil, g_177_0, g_177_77, g_177_134, g_177_194, g_177_254, g_177_314, g_177_374, g_177_434, g_177_494, g_177_554, g_177_614, g_177_674, g_177_734, g_177_794, g_177_859, g_177_932, g_177_1015, g_177_1094, g_177_1174]
  refine xb_newI h (by decide) (fun z1 v1 h => ?_)
  refine xb_putR h (by decide) (fun z1 h => ?_)
  try simp -implicitDefEqProofs only [x_aload, nth_0, nth_s, ldA_a, ldI_i, x_iconst, x_iload, x_dupA, x_dupI, x_nil, g_177_0, g_177_77, g_177_134, g_177_194, g_177_254, g_177_314, g_177_374, g_177_434, g_177_494, g_177_554, g_177_614, g_177_674, g_177_734, g_177_794, g_177_859, g_177_932, g_177_1015, g_177_1094, g_177_1174]
  refine xb_newI h (by decide) (fun z1 v1 h => ?_)
  refine xb_putR h (by decide) (fun z1 h => ?_)
  try simp -implicitDefEqProofs only [x_aload, nth_0, nth_s, ldA_a, ldI_i, x_iconst, x_iload, x_dupA, x_dupI, x_nil, g_177_0, g_177_77, g_177_134, g_177_194, g_177_254, g_177_314, g_177_374, g_177_434, g_177_494, g_177_554, g_177_614, g_177_674, g_177_734, g_177_794, g_177_859, g_177_932, g_177_1015, g_177_1094, g_177_1174]
  refine xb_newI h (by decide) (fun z1 v1 h => ?_)
  refine xb_putR h (by decide) (fun z1 h => ?_)
  try simp -implicitDefEqProofs only [x_aload, nth_0, nth_s, ldA_a, ldI_i, x_iconst, x_iload, x_dupA, x_dupI, x_nil, g_177_0, g_177_77, g_177_134, g_177_194, g_177_254, g_177_314, g_177_374, g_177_434, g_177_494, g_177_554, g_177_614, g_177_674, g_177_734, g_177_794, g_177_859, g_177_932, g_177_1015, g_177_1094, g_177_1174]
  refine xb_newI h (by decide) (fun z1 v1 h => ?_)
  try simp -implicitDefEqProofs only [x_aload, nth_0, nth_s, ldA_a, ldI_i, x_iconst, x_iload, x_dupA, x_dupI, x_nil, g_177_0, g_177_77, g_177_134, g_177_194, g_177_254, g_177_314, g_177_374, g_177_434, g_177_494, g_177_554, g_177_614, g_177_674, g_177_734, g_177_794, g_177_859, g_177_932, g_177_1015, g_177_1094, g_177_1174]
  refine xb_putR h (by decide) (fun z1 h => ?_)
  try simp -implicitDefEqProofs only [x_aload, nth_0, nth_s, ldA_a, ldI_i, x_iconst, x_iload, x_dupA, x_dupI, x_nil, g_177_0, g_177_77, g_177_134, g_177_194, g_177_254, g_177_314, g_177_374, g_177_434, g_177_494, g_177_554, g_177_614, g_177_674, g_177_734, g_177_794, g_177_859, g_177_932, g_177_1015, g_177_1094, g_177_1174]
  refine xb_newI h (by decide) (fun z1 v1 h => ?_)
  refine xb_putR h (by decide) (fun z1 h => ?_)
  try simp -implicitDefEqProofs only [x_aload, nth_0, nth_s, ldA_a, ldI_i, x_iconst, x_iload, x_dupA, x_dupI, x_nil, g_177_0, g_177_77, g_177_134, g_177_194, g_177_254, g_177_314, g_177_374, g_177_434, g_177_494, g_177_554, g_177_614, g_177_674, g_177_734, g_177_794, g_177_859, g_177_932, g_177_1015, g_177_1094, g_177_1174]
  refine xb_newI h (by decide) (fun z1 v1 h => ?_)
  refine xb_putR h (by decide) (fun z1 h => ?_)
  try simp -implicitDefEqProofs only [x_aload, nth_0, nth_s, ldA_a, ldI_i, x_iconst, x_iload, x_dupA, x_dupI, x_nil, g_177_0, g_177_77, g_177_134, g_177_194, g_177_254, g_177_314, g_177_374, g_177_434, g_177_494, g_177_554, g_177_614, g_177_674, g_177_734, g_177_794, g_177_859, g_177_932, g_177_1015, g_177_1094, g_177_1174]
  refine xb_newI h (by decide) (fun z1 v1 h => ?_)
  refine xb_putR h (by decide) (fun z1 h => ?_)
  try simp -implicitDefEqProofs only [x_aload, nth_0, nth_s, ldA_a, ldI_i, x_iconst, x_iload, x_dupA, x_dupI, x_nil, g_177_0, g_177_77, g_177_134, g_177_194, g_177_254, g_177_314, g_177_374, g_177_434, g_177_494, g_177_554, g_177_614, g_177_674, g_177_734, g_177_794, g_177_859, g_177_932, g_177_1015, g_177_1094, g_177_1174]
  refine xb_newI h (by decide) (fun z1 v1 h => ?_)
  refine xb_putR h (by decide) (fun z1 h => ?_)
  try simp -implicitDefEqProofs only [x_aload, nth_0, nth_s, ldA_a, ldI_i, x_iconst, x_iload, x_dupA, x_dupI, x_nil, g_177_0, g_177_77, g_177_134, g_177_194, g_177_254, g_177_314, g_177_374, g_177_434, g_177_494, g_177_554, g_177_614, g_177_674, g_177_734, g_177_794, g_177_859, g_177_932, g_177_1015, g_177_1094, g_177_1174]
  refine xb_newI h (by decide) (fun z1 v1 h => ?_)
  refine xb_putR h (by decide) (fun z1 h => ?_)
  try simp -implicitDefEqProofs only [x_aload, nth_0, nth_s, ldA_a, ldI_i, x_iconst, x_iload, x_dupA, x_dupI, x_nil, g_177_0, g_177_77, g_177_134, g_177_194, g_177_254, g_177_314, g_177_374, g_177_434, g_177_494, g_177_554, g_177_614, g_177_674, g_177_734, g_177_794, g_177_859, g_177_932, g_177_1015, g_177_1094, g_177_1174]
  refine xb_newI h (by decide) (fun z1 v1 h => ?_)
  refine xb_putR h (by decide) (fun z1 h => ?_)
  try simp -implicitDefEqProofs only [x_aload, nth_0, nth_s, ldA_a, ldI_i, x_iconst, x_iload, x_dupA, x_dupI, x_nil, g_177_0, g_177_77, g_177_134, g_177_194, g_177_254, g_177_314, g_177_374, g_177_434, g_177_494, g_177_554, g_177_614, g_177_674, g_177_734, g_177_794, g_177_859, g_177_932, g_177_1015, g_177_1094, g_177_1174]
  refine xb_newI h (by decide) (fun z1 v1 h => ?_)
  refine xb_putR h (by decide) (fun z1 h => ?_)
  try simp -implicitDefEqProofs only [x_aload, nth_0, nth_s, ldA_a, ldI_i, x_iconst, x_iload, x_dupA, x_dupI, x_nil, g_177_0, g_177_77, g_177_134, g_177_194, g_177_254, g_177_314, g_177_374, g_177_434, g_177_494, g_177_554, g_177_614, g_177_674, g_177_734, g_177_794, g_177_859, g_177_932, g_177_1015, g_177_1094, g_177_1174]
  refine xb_newI h (by decide) (fun z1 v1 h => ?_)
  refine xb_putR h (by decide) (fun z1 h => ?_)
  try simp -implicitDefEqProofs only [x_aload, nth_0, nth_s, ldA_a, ldI_i, x_iconst, x_iload, x_dupA, x_dupI, x_nil, g_177_0, g_177_77, g_177_134, g_177_194, g_177_254, g_177_314, g_177_374, g_177_434, g_177_494, g_177_554, g_177_614, g_177_674, g_177_734, g_177_794, g_177_859, g_177_932, g_177_1015, g_177_1094, g_177_1174]
  refine xb_newI h (by decide) (fun z1 v1 h => ?_)
  refine xb_putR h (by decide) (fun z1 h => ?_)
  try simp -implicitDefEqProofs only [x_aload, nth_0, nth_s, ldA_a, ldI_i, x_iconst, x_iload, x_dupA, x_dupI, x_nil, g_177_0, g_177_77, g_177_134, g_177_194, g_177_254, g_177_314, g_177_374, g_177_434, g_177_494, g_177_554, g_177_614, g_177_674, g_177_734, g_177_794, g_177_859, g_177_932, g_177_1015, g_177_1094, g_177_1174]
  refine xb_newI h (by decide) (fun z1 v1 h => ?_)
  try simp -implicitDefEqProofs only [x_aload, nth_0, nth_s, ldA_a, ldI_i, x_iconst, x_iload, x_dupA, x_dupI, x_nil, g_177_0, g_177_77, g_177_134, g_177_194, g_177_254, g_177_314, g_177_374, g_177_434, g_177_494, g_177_554, g_177_614, g_177_674, g_177_734, g_177_794, g_177_859, g_177_932, g_177_1015, g_177_1094, g_177_1174]
  refine xb_putR h (by decide) (fun z1 h => ?_)
  try simp -implicitDefEqProofs only [x_aload, nth_0, nth_s, ldA_a, ldI_i, x_iconst, x_iload, x_dupA, x_dupI, x_nil, g_177_0, g_177_77, g_177_134, g_177_194, g_177_254, g_177_314, g_177_374, g_177_434, g_177_494, g_177_554, g_177_614, g_177_674, g_177_734, g_177_794, g_177_859, g_177_932, g_177_1015, g_177_1094, g_177_1174]
  refine xb_newI h (by decide) (fun z1 v1 h => ?_)
  refine xb_putR h (by decide) (fun z1 h => ?_)
  try simp -implicitDefEqProofs only [x_aload, nth_0, nth_s, ldA_a, ldI_i, x_iconst, x_iload, x_dupA, x_dupI, x_nil, g_177_0, g_177_77, g_177_134, g_177_194, g_177_254, g_177_314, g_177_374, g_177_434, g_177_494, g_177_554, g_177_614, g_177_674, g_177_734, g_177_794, g_177_859, g_177_932, g_177_1015, g_177_1094, g_177_1174]
  refine xb_newI h (by decide) (fun z1 v1 h => ?_)
  refine xb_putR h (by decide) (fun z1 h => ?_)
  try simp -implicitDefEqProofs only [x_aload, nth_0, nth_s, ldA_a, ldI_i, x_iconst, x_iload, x_dupA, x_dupI, x_nil, g_177_0, g_177_77, g_177_134, g_177_194, g_177_254, g_177_314, g_177_374, g_177_434, g_177_494, g_177_554, g_177_614, g_177_674, g_177_734, g_177_794, g_177_859, g_177_932, g_177_1015, g_177_1094, g_177_1174]
  refine xb_newI h (by decide) (fun z1 v1 h => ?_)
  refine xb_putR h (by decide) (fun z1 h => ?_)
  try simp -implicitDefEqProofs only [x_aload, nth_0, nth_s, ldA_a, ldI_i, x_iconst, x_iload, x_dupA, x_dupI, x_nil, g_177_0, g_177_77, g_177_134, g_177_194, g_177_254, g_177_314, g_177_374, g_177_434, g_177_494, g_177_554, g_177_614, g_177_674, g_177_734, g_177_794, g_177_859, g_177_932, g_177_1015, g_177_1094, g_177_1174]
  refine xb_newI h (by decide) (fun z1 v1 h => ?_)
  refine xb_putR h (by decide) (fun z1 h => ?_)
  try simp -implicitDefEqProofs only [x_aload, nth_0, nth_s, ldA_a, ldI_i, x_iconst, x_iload, x_dupA, x_dupI, x_nil, g_177_0, g_177_77, g_177_134, g_177_194, g_177_254, g_177_314, g_177_374, g_177_434, g_177_494, g_177_554, g_177_614, g_177_674, g_177_734, g_177_794, g_177_859, g_177_932, g_177_1015, g_177_1094, g_177_1174]
  refine xb_newI h (by decide) (fun z1 v1 h => ?_)
  refine xb_putR h (by decide) (fun z1 h => ?_)
  try simp -implicitDefEqProofs only [x_aload, nth_0, nth_s, ldA_a, ldI_i, x_iconst, x_iload, x_dupA, x_dupI, x_nil, g_177_0, g_177_77, g_177_134, g_177_194, g_177_254, g_177_314, g_177_374, g_177_434, g_177_494, g_177_554, g_177_614, g_177_674, g_177_734, g_177_794, g_177_859, g_177_932, g_177_1015, g_177_1094, g_177_1174]
  refine xb_newI h (by decide) (fun z1 v1 h => ?_)
  refine xb_putR h (by decide) (fun z1 h => ?_)
  try simp -implicitDefEqProofs only [x_aload, nth_0, nth_s, ldA_a, ldI_i, x_iconst, x_iload, x_dupA, x_dupI, x_nil, g_177_0, g_177_77, g_177_134, g_177_194, g_177_254, g_177_314, g_177_374, g_177_434, g_177_494, g_177_554, g_177_614, g_177_674, g_177_734, g_177_794, g_177_859, g_177_932, g_177_1015, g_177_1094, g_177_1174]
  refine xb_newI h (by decide) (fun z1 v1 h => ?_)
  refine xb_putR h (by decide) (fun z1 h => ?_)
  try simp -implicitDefEqProofs only [x_aload, nth_0, nth_s, ldA_a, ldI_i, x_iconst, x_iload, x_dupA, x_dupI, x_nil, g_177_0, g_177_77, g_177_134, g_177_194, g_177_254, g_177_314, g_177_374, g_177_434, g_177_494, g_177_554, g_177_614, g_177_674, g_177_734, g_177_794, g_177_859, g_177_932, g_177_1015, g_177_1094, g_177_1174]
  refine xb_newI h (by decide) (fun z1 v1 h => ?_)
  refine xb_putR h (by decide) (fun z1 h => ?_)
  try simp -implicitDefEqProofs only [x_aload, nth_0, nth_s, ldA_a, ldI_i, x_iconst, x_iload, x_dupA, x_dupI, x_nil, g_177_0, g_177_77, g_177_134, g_177_194, g_177_254, g_177_314, g_177_374, g_177_434, g_177_494, g_177_554, g_177_614, g_177_674, g_177_734, g_177_794, g_177_859, g_177_932, g_177_1015, g_177_1094, g_177_1174]
  refine xb_newI h (by decide) (fun z1 v1 h => ?_)
  refine xb_putR h (by decide) (fun z1 h => ?_)
  try simp -implicitDefEqProofs only [x_aload, nth_0, nth_s, ldA_a, ldI_i, x_iconst, x_iload, x_dupA, x_dupI, x_nil, g_177_0, g_177_77, g_177_134, g_177_194, g_177_254, g_177_314, g_177_374, g_177_434, g_177_494, g_177_554, g_177_614, g_177_674, g_177_734, g_177_794, g_177_859, g_177_932, g_177_1015, g_177_1094, g_177_1174]
  refine xb_newI h (by decide) (fun z1 v1 h => ?_)
  try simp -implicitDefEqProofs only [x_aload, nth_0, nth_s, ldA_a, ldI_i, x_iconst, x_iload, x_dupA, x_dupI, x_nil, g_177_0, g_177_77, g_177_134, g_177_194, g_177_254, g_177_314, g_177_374, g_177_434, g_177_494, g_177_554, g_177_614, g_177_674, g_177_734, g_177_794, g_177_859, g_177_932, g_177_1015, g_177_1094, g_177_1174]
  refine xb_putR h (by decide) (fun z1 h => ?_)
  rw [x_ret]
  exact hQ _ _ h.hn h.hs h.fr ⟨h.ob, h.sg⟩
end KG
