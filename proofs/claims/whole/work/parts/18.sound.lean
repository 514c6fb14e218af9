/-! ===== a method of the small machine is one of the JVM ===== -/
section SS
variable {ε : xE} {p : Program} {l : Launch} {e : Env} {R : Room} {s : State} {m : MethodId} {args : Array Value} {below : List Frame} {meth : Method} {c : Code} {Tg : State → Prop} {j d : Nat} {z0 : xZ} {pc : Nat} {L S : List xv} {z : xZ} {v : xV}
set_option maxHeartbeats 100000000 in
/-- an instruction that is no call and no end -/
theorem sn_step (C : Cx ε p R s m args meth c j d) {ini : Bool} (hini : ini = true → (yn j).name = "<init>") {raw i : Instr} {len : Nat} (h0 : zn z0 ≤ zn z ∧ zs z0 ≤ zs z) (hd : decode (bc j) pc = .ok (raw, len)) (hl : lnk raw len = true) (hr : rs (ow j) (ml j) (rt j) ini pc raw = some i) (K : Nx ε p l e R s m args below meth c Tg j z0 (pc + len) (act i L S z v)) : Wx ε p l e R s m args below meth c Tg j z0 pc L S z v := by
  cases raw
  case tableswitch df lo hi offs =>
    simp only [rs] at hr
    split at hr
    · rename_i q
      cases hr
      exact sn_switchT C hd q.1 q.2.1 q.2.2 K
    · cases hr
  case lookupswitch df ps =>
    simp only [rs] at hr
    split at hr
    · rename_i q
      cases hr
      exact sn_switchL C hd q.1 q.2.1 q.2.2 K
    · cases hr
  all_goals (simp only [lnk, beq_iff_eq] at hl; subst hl)
  case iconst n =>
    obtain ⟨rfl, hn⟩ := cst_inv hr
    exact sn_iconst C hd hn K
  case bipush n =>
    simp only [rs] at hr
    split at hr
    · rename_i q
      cases hr
      exact sn_bipush C hd q K
    · cases hr
  case sipush n =>
    simp only [rs] at hr
    split at hr
    · rename_i q
      cases hr
      exact sn_sipush C hd q K
    · cases hr
  case lconst n => cases hr; exact sn_lconst C hd K
  case ldc i1 =>
    simp only [rs] at hr
    split at hr
    · rename_i n q
      obtain ⟨rfl, hn⟩ := cst_inv hr
      obtain ⟨w, -, -, -, hw⟩ := tKp_ok _ (look_mem q)
      exact sn_ldc C hd (C.2.2.1 _ (wd_mem hw) rfl) hn K
    · split at hr
      · rename_i q2 q
        cases hr
        exact sn_ldcS C hd (C.T.2.2.2.2.1 _ (look_mem q)) K
      · cases hr
  case ldc_w i1 =>
    simp only [rs] at hr
    split at hr
    · rename_i n q
      obtain ⟨rfl, hn⟩ := cst_inv hr
      obtain ⟨w, -, -, -, hw⟩ := tKp_ok _ (look_mem q)
      exact sn_ldc_w C hd (C.2.2.1 _ (wd_mem hw) rfl) hn K
    · cases hr
  case ldc2_w i1 =>
    simp only [rs] at hr
    split at hr
    · rename_i n q
      cases hr
      obtain ⟨w, -, -, -, hw⟩ := tLp_ok _ (look_mem q)
      exact sn_ldc2 C hd (C.2.2.1 _ (wd_mem hw) rfl) K
    · cases hr
  case iload k => cases hr; exact sn_iload C hd K
  case aload k => cases hr; exact sn_aload C hd K
  case lload k => cases hr; exact sn_lload C hd K
  case iload_n k => cases hr; exact sn_iload_n C hd K
  case aload_n k => cases hr; exact sn_aload_n C hd K
  case lload_n k => cases hr; exact sn_lload_n C hd K
  case istore k =>
    simp only [rs] at hr
    split at hr
    · rename_i q
      cases hr; exact sn_istore C hd q K
    · cases hr
  case astore k =>
    simp only [rs] at hr
    split at hr
    · rename_i q
      cases hr; exact sn_astore C hd q K
    · cases hr
  case lstore k =>
    simp only [rs] at hr
    split at hr
    · rename_i q
      cases hr; exact sn_lstore C hd q K
    · cases hr
  case istore_n k =>
    simp only [rs] at hr
    split at hr
    · rename_i q
      cases hr; exact sn_istore_n C hd q K
    · cases hr
  case astore_n k =>
    simp only [rs] at hr
    split at hr
    · rename_i q
      cases hr; exact sn_astore_n C hd q K
    · cases hr
  case lstore_n k =>
    simp only [rs] at hr
    split at hr
    · rename_i q
      cases hr; exact sn_lstore_n C hd q K
    · cases hr
  case iinc k n =>
    simp only [rs] at hr
    split at hr
    · rename_i q
      cases hr; exact sn_iinc C hd q K
    · cases hr
  case goto o =>
    simp only [rs] at hr
    split at hr
    · rename_i q
      cases hr; exact sn_goto C hd q K
    · cases hr
  case ifCond cc o =>
    simp only [rs] at hr
    split at hr
    · rename_i q
      cases hr
      simp only [act] at K
      split at K
      · cases cc
        · exact sn_if_eq C hd q K
        · exact sn_if_ne C hd q K
        · exact sn_if_lt C hd q K
        · exact sn_if_ge C hd q K
        · exact sn_if_gt C hd q K
        · exact sn_if_le C hd q K
      · exact K.elim
    · cases hr
  case if_icmp cc o =>
    simp only [rs] at hr
    split at hr
    · rename_i q
      cases hr
      simp only [act] at K
      split at K
      · cases cc
        · exact sn_icmp_eq C hd q K
        · exact sn_icmp_ne C hd q K
        · exact sn_icmp_lt C hd q K
        · exact sn_icmp_ge C hd q K
        · exact sn_icmp_gt C hd q K
        · exact sn_icmp_le C hd q K
      · exact K.elim
    · cases hr
  case getfield i1 =>
    simp only [rs] at hr
    split at hr
    · rename_i t k q
      split at hr
      · rename_i q2
        cases hr; exact sn_getR C q q2 hd K
      · rename_i q2
        cases hr; exact sn_getI C q (by simpa using q2) hd K
    · cases hr
  case putfield i1 =>
    simp only [rs] at hr
    split at hr
    · rename_i t k q
      split at hr
      · rename_i q2
        have hfin : (fT t k).2.2.2 = true → (yn j).name = "<init>" ∧ t = ow j := fun h => ⟨hini (q2.2 h).1, (q2.2 h).2⟩
        split at hr
        · rename_i q3
          cases hr; exact sn_putR C q q2.1 hfin (by rw [q3]; rfl) hd K
        · rename_i q3
          cases hr; exact sn_putR C q q2.1 hfin (by rw [q3]; rfl) hd K
        · rename_i q3
          cases hr; exact sn_putZ C q q2.1 hfin q3 hd K
        · rename_i q3
          cases hr; exact sn_putI C q q2.1 hfin q3 hd K
        · cases hr
      · cases hr
    · cases hr
  case getstatic i1 =>
    simp only [rs] at hr
    split at hr
    · rename_i q
      obtain ⟨rfl, hn⟩ := cst_inv hr
      exact sn_statI C q hn hd K
    · rename_i q
      cases hr
      exact sn_statR C q hd K
    · cases hr
  case invokevirtual i1 =>
    simp only [rs] at hr
    split at hr
    · cases hr
      simp only [act] at K
      split at K
      · split at K
        · exact K.elim
        · exact K.elim
      · exact K.elim
    · cases hr
  case invokespecial i1 =>
    simp only [rs] at hr
    split at hr
    · rename_i q
      cases hr
      obtain ⟨w, hw⟩ := cl_ok q
      exact sn_objInit C (wd_mem hw) wOi wOc hd K
    · cases hr
      simp only [act] at K
      split at K
      · split at K
        · exact K.elim
        · exact K.elim
      · exact K.elim
    · cases hr
      simp only [act] at K
      split at K
      · split at K
        · exact K.elim
        · exact K.elim
      · exact K.elim
    · cases hr
  case invokestatic i1 =>
    simp only [rs] at hr
    split at hr
    · rename_i q
      cases hr
      obtain ⟨w, hw⟩ := cl_ok q
      exact sn_copy C (wd_mem hw) wAn wAs wAi hd K
    · cases hr
      simp only [act] at K
      split at K
      · split at K
        · exact K.elim
        · exact K.elim
      · exact K.elim
    · cases hr
      simp only [act] at K
      split at K
      · split at K
        · exact K.elim
        · exact K.elim
      · exact K.elim
    · cases hr
      simp only [act] at K
      split at K
      · exact K.elim
      · exact K.elim
    · rename_i q
      cases hr
      obtain ⟨w, hw⟩ := cl_ok q
      exact sn_max C (wd_mem hw) wM1s wMi wM1c h0 hd K
    · rename_i q
      cases hr
      obtain ⟨w, hw⟩ := cl_ok q
      exact sn_min C (wd_mem hw) wM2s wMi wM2c h0 hd K
    · rename_i q
      cases hr
      obtain ⟨w, hw⟩ := cl_ok q
      exact sn_abs C (wd_mem hw) wM3s wMi wM3c h0 hd K
    · rename_i q
      cases hr
      obtain ⟨w, hw⟩ := cl_ok q
      exact sn_labs C (wd_mem hw) wM4s wMi wM4c h0 hd K
    · rename_i q
      cases hr
      obtain ⟨w, hw⟩ := cl_ok q
      exact sn_lmax C (wd_mem hw) wM5s wMi wM5c h0 hd K
    · cases hr
  case new i1 =>
    simp only [rs] at hr
    split at hr
    · rename_i t q
      split at hr
      · rename_i q2
        cases hr; exact sn_new C q q2 h0 hd K
      · cases hr
    · cases hr
  case anewarray i1 =>
    simp only [rs] at hr
    split at hr
    · rename_i q
      cases hr; exact sn_anew C q h0 hd K
    · cases hr
  case multianewarray i1 n =>
    match n, hd, hr, K with
    | 2, hd, hr, K =>
      simp only [rs] at hr
      split at hr
      · rename_i q
        cases hr; exact sn_multi C q wI h0 hd K
      · cases hr
    | 0, _, hr, _ => simp [rs] at hr
    | 1, _, hr, _ => simp [rs] at hr
    | n + 3, _, hr, _ => simp [rs] at hr
  case newarray t =>
    cases t <;> simp only [rs] at hr <;> first
      | (cases hr; exact sn_newarray_int C h0 wI hd K)
      | (cases hr; exact sn_newarray_char C h0 wC hd K)
      | (cases hr; exact sn_newarray_long C h0 wL hd K)
      | cases hr
  case ireturn =>
    simp only [rs] at hr
    split at hr <;> cases hr <;> (simp only [act] at K; repeat' split at K) <;> exact K.elim
  case lreturn =>
    simp only [rs] at hr
    split at hr <;> cases hr <;> (simp only [act] at K; repeat' split at K) <;> exact K.elim
  case return_ =>
    simp only [rs] at hr
    split at hr <;> cases hr <;> (simp only [act] at K; repeat' split at K) <;> exact K.elim
  case iadd => cases hr; exact sn_iadd C hd K
  case isub => cases hr; exact sn_isub C hd K
  case imul => cases hr; exact sn_imul C hd K
  case idiv => cases hr; exact sn_idiv C hd K
  case irem => cases hr; exact sn_irem C hd K
  case ineg => cases hr; exact sn_ineg C hd K
  case iand => cases hr; exact sn_iand C hd K
  case ior => cases hr; exact sn_ior C hd K
  case ixor => cases hr; exact sn_ixor C hd K
  case ishl => cases hr; exact sn_ishl C hd K
  case ishr => cases hr; exact sn_ishr C hd K
  case iushr => cases hr; exact sn_iushr C hd K
  case i2b => cases hr; exact sn_i2b C hd K
  case i2c => cases hr; exact sn_i2c C hd K
  case i2l => cases hr; exact sn_i2l C hd K
  case l2i => cases hr; exact sn_l2i C hd K
  case ladd => cases hr; exact sn_ladd C hd K
  case lsub => cases hr; exact sn_lsub C hd K
  case lmul => cases hr; exact sn_lmul C hd K
  case land => cases hr; exact sn_land C hd K
  case lor => cases hr; exact sn_lor C hd K
  case lxor => cases hr; exact sn_lxor C hd K
  case ldiv => cases hr; exact sn_ldiv C hd K
  case lrem => cases hr; exact sn_lrem C hd K
  case lneg => cases hr; exact sn_lneg C hd K
  case lshl => cases hr; exact sn_lshl C hd K
  case lushr => cases hr; exact sn_lushr C hd K
  case lcmp => cases hr; exact sn_lcmp C hd K
  case dup => cases hr; exact sn_dup C hd K
  case dup2 => cases hr; exact sn_dup2 C hd K
  case pop => cases hr; exact sn_pop C hd K
  case arraylength => cases hr; exact sn_arraylength C hd K
  case iaload => cases hr; exact sn_iaload C hd K
  case caload => cases hr; exact sn_caload C hd K
  case baload => cases hr; exact sn_baload C hd K
  case laload => cases hr; exact sn_laload C hd K
  case aaload => cases hr; exact sn_aaload C hd K
  case iastore => cases hr; exact sn_iastore C hd K
  case castore => cases hr; exact sn_castore C hd K
  case lastore => cases hr; exact sn_lastore C hd K
  case aastore => cases hr; exact sn_aastore C hd K
  all_goals exact absurd hr (by simp [rs])
end SS
