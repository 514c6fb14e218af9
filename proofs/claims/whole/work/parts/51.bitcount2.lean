def bs : Nat → Nat → Nat
  | 0, _ => 0
  | k + 1, n => n % 2 + bs k (n / 2)
theorem bs8 (k n : Nat) : bs (k + 8) n = pcb (n % 256) + bs k (n / 256) := by
  show n % 2 + (n / 2 % 2 + (n / 2 / 2 % 2 + (n / 2 / 2 / 2 % 2 + (n / 2 / 2 / 2 / 2 % 2 + (n / 2 / 2 / 2 / 2 / 2 % 2 + (n / 2 / 2 / 2 / 2 / 2 / 2 % 2 + (n / 2 / 2 / 2 / 2 / 2 / 2 / 2 % 2 + bs k (n / 2 / 2 / 2 / 2 / 2 / 2 / 2 / 2)))))))) = _
  rw [show n / 2 / 2 / 2 / 2 / 2 / 2 / 2 / 2 = n / 256 by omega]
  unfold pcb
  omega
theorem bs64 (n : Nat) : bs 64 n = pcb (n % 256) + pcb (n / 256 % 256) + pcb (n / 256 / 256 % 256) + pcb (n / 256 / 256 / 256 % 256) + pcb (n / 256 / 256 / 256 / 256 % 256) + pcb (n / 256 / 256 / 256 / 256 / 256 % 256) + pcb (n / 256 / 256 / 256 / 256 / 256 / 256 % 256) + pcb (n / 256 / 256 / 256 / 256 / 256 / 256 / 256 % 256) := by
  rw [show (64 : Nat) = 56 + 8 from rfl, bs8, show (56 : Nat) = 48 + 8 from rfl, bs8, show (48 : Nat) = 40 + 8 from rfl, bs8, show (40 : Nat) = 32 + 8 from rfl, bs8, show (32 : Nat) = 24 + 8 from rfl, bs8, show (24 : Nat) = 16 + 8 from rfl, bs8, show (16 : Nat) = 8 + 8 from rfl, bs8, show (8 : Nat) = 0 + 8 from rfl, bs8]
  show _ + (_ + (_ + (_ + (_ + (_ + (_ + (_ + 0))))))) = _
  omega
theorem cnt_sh (p : Nat → Prop) [DecidablePred p] : ∀ k, cnt p (k + 1) = (if p 0 then 1 else 0) + cnt (fun i => p (i + 1)) k
  | 0 => Nat.zero_add _
  | k + 1 => by
    rw [cnt, cnt_sh p k]
    show _ = _ + (cnt (fun i => p (i + 1)) k + if p (k + 1) then 1 else 0)
    omega
theorem cnt_bs : ∀ (k n : Nat), cnt (fun c => n.testBit c = true) k = bs k n
  | 0, _ => rfl
  | k + 1, n => by
    rw [cnt_sh, bs, ← cnt_bs k (n / 2)]
    congr 1
    · by_cases h : n % 2 = 1
      · rw [if_pos (by rw [Nat.testBit_zero]; simp [h]), h]
      · rw [if_neg (by rw [Nat.testBit_zero]; simp [h])]; omega
    · refine cnt_cg (fun i => ?_) k
      rw [Nat.testBit_succ]
def pop (x : Int64) : Nat := cnt (fun c => lbt x c = true) 64
theorem pop_bs (x : Int64) : pop x = bs 64 (nv x) := by
  rw [← cnt_bs]
  exact cnt_cg (fun c => Iff.rfl) 64
def lb1 (x : Int64) : Int64 := x - (shR x 1 &&& Int64.ofInt 6148914691236517205)
def lb2 (x : Int64) : Int64 := (x &&& Int64.ofInt 3689348814741910323) + (shR x 2 &&& Int64.ofInt 3689348814741910323)
def lb3 (x : Int64) : Int64 := (x + shR x 4) &&& Int64.ofInt 1085102592571150095
def lb4 (x : Int64) : Int64 := x + shR x 8
def lb5 (x : Int64) : Int64 := x + shR x 16
def lb6 (x : Int64) : Int64 := x + shR x 32
theorem nv_r1 (x : Int64) : nv (shR x 1) = nv x / 2 := nv_shR (j := 1) (by decide)
theorem nv_r2 (x : Int64) : nv (shR x 2) = nv x / 4 := nv_shR (j := 2) (by decide)
theorem nv_r4 (x : Int64) : nv (shR x 4) = nv x / 16 := nv_shR (j := 4) (by decide)
theorem nv_r8 (x : Int64) : nv (shR x 8) = nv x / 256 := nv_shR (j := 8) (by decide)
theorem nv_r16 (x : Int64) : nv (shR x 16) = nv x / 65536 := nv_shR (j := 16) (by decide)
theorem nv_r32 (x : Int64) : nv (shR x 32) = nv x / 4294967296 := nv_shR (j := 32) (by decide)
theorem lb_all (x : Int64) : nv (lb6 (lb5 (lb4 (lb3 (lb2 (lb1 x)))))) % 128 = pop x := by
  have hn := nv_lt x
  have p8 : (256 : Nat) ^ 8 = 18446744073709551616 := by decide
  obtain ⟨j1, j2, j3, j4⟩ := sW_step 8 (nv x) (by rw [p8]; exact hn)
  have hall := sW_all (nv x) (by rw [p8]; exact hn)
  rw [p8] at j2 j3
  have m5 : nv (Int64.ofInt 6148914691236517205) = mk8 85 8 := by decide +kernel
  have m3 : nv (Int64.ofInt 3689348814741910323) = mk8 51 8 := by decide +kernel
  have m0 : nv (Int64.ofInt 1085102592571150095) = mk8 15 8 := by decide +kernel
  have a1 : nv (lb1 x) = sW1 8 (nv x) := by
    have h := nv_and (shR x 1) (Int64.ofInt 6148914691236517205)
    rw [nv_r1, m5] at h
    unfold lb1
    rw [nv_sub (by rw [h]; exact j1), h]
    rfl
  have a2 : nv (lb2 (lb1 x)) = sW2 8 (sW1 8 (nv x)) := by
    have h := nv_and (shR (lb1 x) 2) (Int64.ofInt 3689348814741910323)
    rw [nv_r2, m3, a1] at h
    have h' := nv_and (lb1 x) (Int64.ofInt 3689348814741910323)
    rw [m3, a1] at h'
    unfold lb2
    rw [nv_add (by rw [h, h']; show sW2 8 (sW1 8 (nv x)) < _; omega), h, h']
    rfl
  have a3 : nv (lb3 (lb2 (lb1 x))) = sW3 8 (sW2 8 (sW1 8 (nv x))) := by
    unfold lb3
    rw [nv_and, m0, nv_add (by rw [nv_r4, a2]; omega), nv_r4, a2]
    rfl
  rw [hall] at a3
  generalize lb3 (lb2 (lb1 x)) = y at a3
  rw [pop_bs, bs64]
  clear hall a1 a2 j1 j2 j3 j4 m5 m3 m0
  have q0 := pcb_le (nv x % 256)
  have q1 := pcb_le (nv x / 256 % 256)
  have q2 := pcb_le (nv x / 256 / 256 % 256)
  have q3 := pcb_le (nv x / 256 / 256 / 256 % 256)
  have q4 := pcb_le (nv x / 256 / 256 / 256 / 256 % 256)
  have q5 := pcb_le (nv x / 256 / 256 / 256 / 256 / 256 % 256)
  have q6 := pcb_le (nv x / 256 / 256 / 256 / 256 / 256 / 256 % 256)
  have q7 := pcb_le (nv x / 256 / 256 / 256 / 256 / 256 / 256 / 256 % 256)
  generalize pcb (nv x % 256) = a at *
  generalize pcb (nv x / 256 % 256) = b at *
  generalize pcb (nv x / 256 / 256 % 256) = c at *
  generalize pcb (nv x / 256 / 256 / 256 % 256) = d at *
  generalize pcb (nv x / 256 / 256 / 256 / 256 % 256) = e at *
  generalize pcb (nv x / 256 / 256 / 256 / 256 / 256 % 256) = f at *
  generalize pcb (nv x / 256 / 256 / 256 / 256 / 256 / 256 % 256) = g at *
  generalize pcb (nv x / 256 / 256 / 256 / 256 / 256 / 256 / 256 % 256) = h at *
  have key := add_all q0 q1 q2 q3 q4 q5 q6 q7
  rw [← a3] at key
  have hy : nv y ≤ 1000000000000000000 := by
    rw [show (256 : Nat) ^ 2 = 65536 from rfl, show (256 : Nat) ^ 3 = 16777216 from rfl, show (256 : Nat) ^ 4 = 4294967296 from rfl, show (256 : Nat) ^ 5 = 1099511627776 from rfl, show (256 : Nat) ^ 6 = 281474976710656 from rfl, show (256 : Nat) ^ 7 = 72057594037927936 from rfl] at a3
    omega
  clear a3
  have b4 : nv (lb4 y) = nv y + nv y / 256 := by
    unfold lb4
    rw [nv_add (by rw [nv_r8]; omega), nv_r8]
  have b5 : nv (lb5 (lb4 y)) = nv (lb4 y) + nv (lb4 y) / 65536 := by
    unfold lb5
    rw [nv_add (by rw [nv_r16]; omega), nv_r16]
  have b6 : nv (lb6 (lb5 (lb4 y))) = nv (lb5 (lb4 y)) + nv (lb5 (lb4 y)) / 4294967296 := by
    unfold lb6
    rw [nv_add (by rw [nv_r32]; omega), nv_r32]
  rw [b6, b5, b4]
  exact key
theorem e_lbc {d : Nat} {z : xZ} {v : xV} {Q : xZ → xV → xv → Prop} {x : Int64} : EvM TB (d + 1) 105 z v [.inr (.inr (.inl x))] Q = Q z v (.inl (pop x : Int)) := by
  rw [e_ev]
  simp -implicitDefEqProofs only [lay_n, lay_i, lay_a, lay_l, x_nil, x_iconst, x_lconst, x_ldc, x_iload, x_aload, x_lload, x_istore, x_astore, x_lstore, x_iinc, x_iadd, x_isub, x_imul, x_idiv, x_irem, x_ineg, x_iand, x_ior, x_ixor, x_ishl, x_ishr, x_iushr, x_i2b, x_i2c, x_i2l, x_l2i, x_ladd, x_lsub, x_lmul, x_land, x_lor, x_lxor, x_ldiv, x_lrem, x_lneg, x_lshl, x_lushr, x_lcmp, x_max, x_min, x_abs, x_labs, x_lmax, x_dupI, x_dupA, x_dup2, x_popI, x_popA, x_goto, x_eq, x_ne, x_lt, x_ge, x_gt, x_le, x_ceq, x_cne, x_clt, x_cge, x_cgt, x_cle, x_sw, x_getI, x_getR, x_putI, x_putZ, x_putR, x_new, x_newI, x_newC, x_newL, x_anew, x_multi, x_alen, x_iald, x_cald, x_bald, x_lald, x_aald, x_iast, x_cast, x_last, x_aast, x_copy, x_obj, x_call, x_callL, x_iret, x_zret, x_cret, x_bret, x_lret, x_ret, ldI_i, ldA_a, ldL_l, nth_0, nth_s, sto_n0, sto_ns, sto_0, sto_i, sto_a, sto_l0, sto_ls, psh_t, psh_f, spl, splL, sh4, rcv, swK, stoL, clr, reduceIte, Int.reduceEq, Int.reduceLT, Int.reduceLE, Int.reduceAdd, Int.reduceSub, Int.reduceNeg, or_true, true_or, or_false, false_or, false_and, and_false, not_false_eq_true, not_true_eq_false, ne_eq, Nat.reduceDiv, Nat.reduceMod, Nat.reduceAdd, Nat.reduceMul, Nat.reduceBEq, Int.reduceToNat, Int.toNat_natCast, Nat.reduceEqDiff, Nat.reduceLT, Nat.reduceLeDiff, beq_self_eq_true, beq_iff_eq, true_and, and_true, Bool.false_eq_true, ite_self, Int.reduceTMod, Int.reduceTDiv, List.tail_cons, List.cons_append, List.nil_append, Nat.zero_add, g_105_0, g_105_50]
  show Q z v (.inl (b32 (· &&& ·) (lb6 (lb5 (lb4 (lb3 (lb2 (lb1 x)))))).toInt32.toInt 127)) = _
  rw [and127, lb_all]
