/-! ===== THE CONTRACTS OF ALL METHODS ===== -/
theorem nar_byte {x : Int} (h : -128 ≤ x ∧ x < 128) : narrow .byte (.int (Int32.ofInt x)) = .int (Int32.ofInt x) := by
  show Value.int ((Int32.ofInt x).toInt8.toInt32) = _
  congr 1
  apply Int32.toInt_inj.mp
  rw [toI_of ⟨by omega, by omega⟩, Int8.toInt_toInt32, Int32.toInt_toInt8, toI_of ⟨by omega, by omega⟩]
  show Int.bmod x 256 = x
  unfold Int.bmod
  dsimp only
  split <;> omega
theorem rt_sw {d x : Int} {L S : List xv} {z : xZ} {v : xV} {q : xZ × xV × xv} : ∀ ps : List (Int × Int), oSw ps d x L S z v = some (.inr (.inr (.inr q))) → False
  | [], h => by cases h
  | (k, t) :: ps, h => by
    unfold oSw at h
    split at h
    · cases h
    · exact rt_sw ps h
theorem rt_if {c : Jvm.ClassFile.Cond} {t x y : Int} {L S : List xv} {z : xZ} {v : xV} {q : xZ × xV × xv} (h : oIf c t x y L S z v = some (.inr (.inr (.inr q)))) : False := by
  cases c <;> (unfold oIf at h; dsimp only at h; split at h <;> cases h)
theorem tr_sw {d x : Int} {L S : List xv} {z : xZ} {v : xV} {q : List xv × List xv × xZ × xV} : ∀ ps : List (Int × Int), oSw ps d x L S z v = some (.inl q) → False
  | [], h => by cases h
  | (k, t) :: ps, h => by
    unfold oSw at h
    split at h
    · cases h
    · exact tr_sw ps h
/-- what goes on is no end -/
theorem trm_cont {i : Instr} {L S : List xv} {z : xZ} {v : xV} {q : List xv × List xv × xZ × xV} (h : act i L S z v = some (.inl q)) : trm i = false := by
  unfold trm
  split
  all_goals first
    | rfl
    | (exfalso; unfold act at h; dsimp only at h; (repeat' split at h) <;> (first | (cases h; done) | exact tr_sw _ h))
theorem sw_nc {d x : Int} {L S : List xv} {z : xZ} {v : xV} {q : Nat × Bool × List xv × List xv × List xv} : ∀ ps : List (Int × Int), oSw ps d x L S z v = some (.inr (.inr (.inl q))) → False
  | [], h => by cases h
  | (k, t) :: ps, h => by
    unfold oSw at h
    split at h
    · cases h
    · exact sw_nc ps h
theorem if_nc {c : Jvm.ClassFile.Cond} {t x y : Int} {L S : List xv} {z : xZ} {v : xV} {q : Nat × Bool × List xv × List xv × List xv} (h : oIf c t x y L S z v = some (.inr (.inr (.inl q)))) : False := by
  cases c <;> (unfold oIf at h; dsimp only at h; split at h <;> cases h)
theorem act_call {i : Instr} {L S : List xv} {z : xZ} {v : xV} {q : Nat × Bool × List xv × List xv × List xv} (h : act i L S z v = some (.inr (.inr (.inl q)))) : (∃ k c, i = .invokeinterface k c) ∨ ∃ n, i = .invokedynamic n := by
  unfold act oBin oBinL oShL oUn oLoad oLoadA oLoadL oStore oStoreA oStoreL oInc at h
  split at h
  all_goals first
    | exact Or.inl ⟨_, _, rfl⟩
    | exact Or.inr ⟨_, rfl⟩
    | (repeat' split at h)
  all_goals first
    | (cases h; done)
    | exact (if_nc h).elim
    | exact (sw_nc _ h).elim
    | exact Or.inl ⟨_, _, rfl⟩
    | exact Or.inr ⟨_, rfl⟩
theorem rs_call {own ml : Nat} {rt : Option FieldType} {ini : Bool} {pc : Nat} {raw : Instr} {k c : Nat} (h : rs own ml rt ini pc raw = some (.invokeinterface k c)) :
    (∃ i, raw = .invokevirtual i ∧ look tM own i = some (2, k, c)) ∨ (∃ i, raw = .invokespecial i ∧ (look tM own i = some (4, k, c) ∨ look tM own i = some (7, k, c))) ∨ (∃ i, raw = .invokestatic i ∧ (look tM own i = some (3, k, c) ∨ look tM own i = some (6, k, c))) := by
  unfold rs cst at h
  split at h
  all_goals (repeat' split at h)
  all_goals first
    | (cases h; done)
    | (cases h; rename_i q; exact Or.inl ⟨_, rfl, q⟩)
    | (cases h; rename_i q; exact Or.inr (Or.inl ⟨_, rfl, Or.inl q⟩))
    | (cases h; rename_i q; exact Or.inr (Or.inl ⟨_, rfl, Or.inr q⟩))
    | (cases h; rename_i q; exact Or.inr (Or.inr ⟨_, rfl, Or.inl q⟩))
    | (cases h; rename_i q; exact Or.inr (Or.inr ⟨_, rfl, Or.inr q⟩))
theorem rs_callL {own ml : Nat} {rt : Option FieldType} {ini : Bool} {pc : Nat} {raw : Instr} {n : Nat} (h : rs own ml rt ini pc raw = some (.invokedynamic n)) :
    ∃ i k c, raw = .invokestatic i ∧ look tM own i = some (8, k, c) ∧ n = 4 * k + c := by
  unfold rs cst at h
  split at h
  all_goals (repeat' split at h)
  all_goals first
    | (cases h; done)
    | (cases h; rename_i q; exact ⟨_, _, _, rfl, q, rfl⟩)
section SB
variable {ε : xE} {p : Program} {l : Launch} {e : Env} {R : Room} {s : State} {m : MethodId} {args : Array Value} {below : List Frame} {meth : Method} {c : Code} {Tg : State → Prop} {j d : Nat} {z0 : xZ} {pc : Nat} {L S : List xv} {z : xZ} {v : xV}
theorem nolong_pad {as : List xv} (h : ∀ x ∈ as, (∃ y, x = .inl y) ∨ ∃ a, x = .inr (.inl a)) : ∀ x ∈ as, x ≠ .inr (.inr (.inr ())) := fun x hx => by
  rcases h x hx with ⟨y, rfl⟩ | ⟨a, rfl⟩ <;> simp
theorem push_eq {k c : Nat} {ro : xv} {r : List xv} (hc : c % 2 = 1 ↔ rt k ≠ none) : (match (c % 2 == 1 : Bool) with | true => ro :: r | false => r) = if rt k = none then r else ro :: r := by
  by_cases q : rt k = none
  · rw [if_pos q]
    have : ¬ c % 2 = 1 := fun h => hc.mp h q
    rw [show (c % 2 == 1) = false by simpa using this]
  · rw [if_neg q]
    rw [show (c % 2 == 1) = true by simpa using hc.mpr q]
theorem sn_call (C : Cx ε p R s m args meth c j d) (hM : MetOk d) {ini : Bool} {raw i : Instr} {len k : Nat} {b : Bool} {as L' r : List xv} {zo : xZ} {vo : xV} {ro : xv} (h00 : zn z0 ≤ zn z ∧ zs z0 ≤ zs z) (hd : decode (bc j) pc = .ok (raw, len)) (hl : lnk raw len = true) (hr : rs (ow j) (ml j) (rt j) ini pc raw = some i)
    (K : Wx ε p l e R s m args below meth c Tg j z0 (pc + len) L' (match b with | true => ro :: r | false => r) zo vo)
    (ha : act i L S z v = some (.inr (.inr (.inl (k, b, as, L', r))))) (hE : EvM TB d k z v as (xEq zo vo ro)) (hz : zle z zo) (hroom : zn zo ≤ zn z0 + R.cells ∧ zs zo ≤ zs z0 + R.slots) : Wx ε p l e R s m args below meth c Tg j z0 pc L S z v := by
  rcases act_call ha with ⟨k', n, rfl⟩ | ⟨n, rfl⟩
  · unfold act at ha
    dsimp only at ha
    split at ha
    · rename_i as' r' hsp
      split at ha
      · rename_i hrc
        cases ha
        obtain ⟨t, rfl, e2, e3, hs4, e5⟩ := spl_spec hsp
        rw [List.append_nil] at e2
        have et : t = as.reverse := by rw [e2, List.reverse_reverse]
        have e6 : ∀ x ∈ as, (∃ y, x = .inl y) ∨ ∃ a, x = .inr (.inl a) := fun x hx => e5 x (by rw [et]; exact List.mem_reverse.mpr hx)
        have e7 : as.length = n % 1000 / 2 := by rw [← e3, et, List.length_reverse]
        subst et
        rcases rs_call hr with ⟨i, rfl, q⟩ | ⟨i, rfl, q⟩ | ⟨i, rfl, q⟩
        · have hl3 : len = 3 := by simpa [lnk] using hl
          subst hl3
          obtain ⟨w, hw⟩ := cl_ok q
          simp [cOk] at hw
          obtain ⟨w1, w2, w3, w4, w5, w6, w7, w8, w9, w10, w11⟩ := hw
          match h1000 : n / 1000, w9 with
          | t + 1, _ =>
            rw [h1000] at hrc w10
            match as, hrc, e7, e6, hE with
            | .inr (.inl a) :: as, hrc, e7, e6, hE =>
              have hzt : zh z a = t := by simpa [rcv] using hrc
              rw [push_eq (by simpa using w5)] at K
              rw [List.reverse_cons, List.append_assoc]
              rw [List.length_cons] at e7
              exact w_callV C hM w1 w2 w6 w8 (by omega) hzt (by simpa using w10) (by rw [lay_len e6, List.length_cons]; omega) (fun x hx => nolong_pad e6 x (List.mem_cons_of_mem _ hx)) hE hz h00 hroom hs4 (Or.inl ⟨hd, w11, wd_mem w3⟩) K
            | [], hrc, _, _, _ => cases hrc
            | .inl _ :: _, hrc, _, _, _ => cases hrc
            | .inr (.inr _) :: _, hrc, _, _, _ => cases hrc
        · have hl3 : len = 3 := by simpa [lnk] using hl
          subst hl3
          have hw : 0 < k ∧ k < 314 ∧ ((∃ w, wd w = some (Cond.methodLink (on (ow j)) i (yn k))) ∨ ∃ q ∈ nwQ, q.1 = on (ow j) ∧ q.2.1 = i ∧ q.2.2.1 = yn k) ∧ n % 1000 / 2 ≤ ml k ∧ (n % 2 = 1 ↔ rt k ≠ none) ∧ mS k = false ∧ 1 ≤ n % 1000 / 2 ∧ npar k = some (n % 1000 / 2 - 1) ∧ 1 ≤ n / 1000 ∧ (n / 1000 - 1 < 11 ∧ (yn k).cls = on (n / 1000 - 1) ∨ n / 1000 - 1 = 50 ∧ (yn k).cls = "java/lang/String") ∧ (yn k).name = "<init>" ∧ rt k = none := by
            rcases q with q | q
            · obtain ⟨w, hw⟩ := cl_ok q
              simp only [cOk] at hw
              rw [if_neg (by decide), if_neg (by decide), if_neg (by decide), if_neg (by decide), if_neg (by decide), if_neg (by decide), if_neg (by decide), if_neg (by decide), if_neg (by decide), if_neg (by decide), if_neg (by decide)] at hw
              obtain ⟨w1, w2, w3, w4, w5, w6, w7, w8, w9, w10, w11, w12, -⟩ := hw
              exact ⟨w1, w2, Or.inl ⟨w, w3⟩, w4, w5, w6, w7, w8, w9, w10, w11, w12⟩
            · obtain ⟨w, hw⟩ := cl_ok q
              simp only [cOk] at hw
              rw [if_neg (by decide), if_neg (by decide), if_neg (by decide), if_neg (by decide), if_neg (by decide), if_neg (by decide), if_neg (by decide), if_pos (by decide), if_neg (by decide), if_neg (by decide), if_neg (by decide)] at hw
              obtain ⟨w1, w2, w3, w4, w5, w6, w7, w8, w9, w10, w11, w12, -⟩ := hw
              exact ⟨w1, w2, Or.inr w3, w4, w5, w6, w7, w8, w9, w10, w11, w12⟩
          obtain ⟨w1, w2, w3, w4, w5, w6, w7, w8, w9, w10, w11, w12⟩ := hw
          match h1000 : n / 1000, w9 with
          | t + 1, _ =>
            rw [h1000] at hrc w10
            match as, hrc, e7, e6, hE with
            | .inr (.inl a) :: as, hrc, e7, e6, hE =>
              have hzt : zh z a = t := by simpa [rcv] using hrc
              rw [push_eq w5] at K
              rw [List.reverse_cons, List.append_assoc]
              rw [List.length_cons] at e7
              refine w_callV C hM w1 w2 w6 w8 (by omega) hzt (by simpa using w10) (by rw [lay_len e6, List.length_cons]; omega) (fun x hx => nolong_pad e6 x (List.mem_cons_of_mem _ hx)) hE hz h00 hroom hs4 (Or.inr ⟨hd, w11, w12, ?_⟩) K
              rcases w3 with ⟨w, w3⟩ | w3
              · exact Or.inl (wd_mem w3)
              · exact Or.inr w3
            | [], hrc, _, _, _ => cases hrc
            | .inl _ :: _, hrc, _, _, _ => cases hrc
            | .inr (.inr _) :: _, hrc, _, _, _ => cases hrc
        · have hl3 : len = 3 := by simpa [lnk] using hl
          subst hl3
          have hw : 0 < k ∧ k < 314 ∧ (Cond.methodLink (on (ow j)) i (yn k) ∈ lw_tbl ∨ ∃ q ∈ nwQ, q.1 = on (ow j) ∧ q.2.1 = i ∧ q.2.2.1 = yn k) ∧ n % 1000 / 2 ≤ ml k ∧ (n % 2 = 1 ↔ rt k ≠ none) ∧ mS k = true ∧ npar k = some (n % 1000 / 2) := by
            rcases q with q | q
            · obtain ⟨w, hw⟩ := cl_ok q
              simp only [cOk] at hw
              rw [if_neg (by decide), if_neg (by decide), if_neg (by decide), if_neg (by decide), if_neg (by decide), if_neg (by decide), if_neg (by decide), if_neg (by decide), if_neg (by decide), if_pos (by decide)] at hw
              obtain ⟨w1, w2, w3, w4, w5, w6, w7, w8⟩ := hw
              exact ⟨w1, w2, Or.inl (wd_mem w3), w4, w5, w6, w8⟩
            · obtain ⟨w, hw⟩ := cl_ok q
              simp only [cOk] at hw
              rw [if_neg (by decide), if_neg (by decide), if_neg (by decide), if_neg (by decide), if_neg (by decide), if_neg (by decide), if_neg (by decide), if_pos (by decide), if_neg (by decide), if_pos (by decide)] at hw
              obtain ⟨w1, w2, w3, w4, w5, w6, w7, w8⟩ := hw
              exact ⟨w1, w2, Or.inr w3, w4, w5, w6, w8⟩
          obtain ⟨w1, w2, w3, w4, w5, w6, w7⟩ := hw
          rw [push_eq w5] at K
          exact w_callS C hM w1 w2 w3 w6 w7 e7 (by rw [lay_len e6]; omega) (nolong_pad e6) hE hz h00 hroom hd hs4 K
      · cases ha
    · cases ha
  · obtain ⟨i, k', n', rfl, q, rfl⟩ := rs_callL hr
    have hl3 : len = 3 := by simpa [lnk] using hl
    subst hl3
    obtain ⟨w, hw⟩ := cl_ok q
    simp only [cOk] at hw
    rw [if_neg (by decide), if_neg (by decide), if_neg (by decide), if_neg (by decide), if_neg (by decide), if_neg (by decide), if_neg (by decide), if_neg (by decide), if_pos (by decide)] at hw
    obtain ⟨w1, w2, w3, w4, w5, w6, w7, w8⟩ := hw
    unfold act at ha
    dsimp only at ha
    rw [show (4 * k' + n') % 4 = n' by omega, show (4 * k' + n') / 4 = k' by omega] at ha
    split at ha
    · rename_i as' r' hsp
      cases ha
      obtain ⟨t, rfl, e2, e3, hs4, e5⟩ := splL_spec hsp
      rw [List.append_nil] at e2
      have et : t = as.reverse := by rw [e2, List.reverse_reverse]
      have e6 : ∀ x ∈ as, ∃ y, x = .inr (.inr (.inl y)) := fun x hx => e5 x (by rw [et]; exact List.mem_reverse.mpr hx)
      have e7 : as.length = n' := by rw [← e3, et, List.length_reverse]
      subst et
      have K : Wx ε p l e R s m args below meth c Tg j z0 (pc + 3) L (if rt k = none then r else ro :: r) zo vo := by
        rw [if_neg w8]
        exact K
      exact w_callS C hM w1 w2 (Or.inl (wd_mem w3)) w4 (by rw [w5, show n' % 4 = n' by omega]) e7 (by rw [lay_len2 e6]; omega) (fun x hx => by obtain ⟨y, rfl⟩ := e6 x hx; simp) hE hz h00 hroom hd hs4 K
    · cases ha
/-- an end -/
theorem sn_ret (C : Cx ε p R s m args meth c j d) {ini : Bool} {raw i : Instr} {len : Nat} {zo : xZ} {vo : xV} {ro : xv} (hd : decode (bc j) pc = .ok (raw, len)) (hl : lnk raw len = true) (hr : rs (ow j) (ml j) (rt j) ini pc raw = some i) (ha : act i L S z v = some (.inr (.inr (.inr (zo, vo, ro))))) :
    Wx ε p l e R s m args below meth c (MQ below (Qcx ε j zo vo ro) args s (zn zo - zn z0) (zs zo - zs z0) (eA ε)) j z0 pc L S z v := by
  have hrt := C.1.2.2.2.1
  have hlocks := C.1.2.2.2.2
  unfold rs cst at hr
  split at hr
  all_goals (repeat' split at hr)
  all_goals first
    | (cases hr; done)
    | (cases hr; exfalso; unfold act oBin oBinL oShL oUn oLoad oLoadA oLoadL oStore oStoreA oStoreL oInc at ha; dsimp only at ha; (repeat' split at ha) <;> (first | (cases ha; done) | exact rt_if ha | exact rt_sw _ ha))
    | skip
  · rename_i q
    cases hr
    have hl1 : len = 1 := by simpa [lnk] using hl
    subst hl1
    unfold act at ha
    dsimp only at ha
    split at ha
    · cases ha
      rename_i x
      intro H locs ls hR hL hl2 gL gS
      exact W.iret C.1.1 C.1.2.1 (hrt.trans q) (fun t ht hW => ⟨by unfold rvo; rw [q]; rfl, by rw [ht]; exact hR, gS⟩) hL hd hlocks
    · cases ha
  · rename_i q
    cases hr
    have hl1 : len = 1 := by simpa [lnk] using hl
    subst hl1
    unfold act at ha
    dsimp only at ha
    split at ha
    · rename_i x
      split at ha
      · rename_i hx
        cases ha
        intro H locs ls hR hL hl2 gL gS
        exact W.zret C.1.1 C.1.2.1 (hrt.trans q) (by rcases hx with rfl | rfl <;> rfl) (fun t ht hW => ⟨by unfold rvo; rw [q]; rfl, by rw [ht]; exact hR, gS⟩) hL hd hlocks
      · cases ha
    · cases ha
  · rename_i q
    cases hr
    have hl1 : len = 1 := by simpa [lnk] using hl
    subst hl1
    unfold act at ha
    dsimp only at ha
    split at ha
    · rename_i x
      split at ha
      · rename_i hx
        cases ha
        intro H locs ls hR hL hl2 gL gS
        exact W.zret C.1.1 C.1.2.1 (hrt.trans q) (by rw [nar_char, show x % 65536 = x by omega]) (fun t ht hW => ⟨by unfold rvo; rw [q]; rfl, by rw [ht]; exact hR, gS⟩) hL hd hlocks
      · cases ha
    · cases ha
  · rename_i q
    cases hr
    have hl1 : len = 1 := by simpa [lnk] using hl
    subst hl1
    unfold act at ha
    dsimp only at ha
    split at ha
    · rename_i x
      split at ha
      · rename_i hx
        cases ha
        intro H locs ls hR hL hl2 gL gS
        exact W.zret C.1.1 C.1.2.1 (hrt.trans q) (nar_byte hx) (fun t ht hW => ⟨by unfold rvo; rw [q]; rfl, by rw [ht]; exact hR, gS⟩) hL hd hlocks
      · cases ha
    · cases ha
  · rename_i q
    cases hr
    have hl1 : len = 1 := by simpa [lnk] using hl
    subst hl1
    unfold act at ha
    dsimp only at ha
    split at ha
    · cases ha
      intro H locs ls hR hL hl2 gL gS
      exact W.lret C.1.1 C.1.2.1 (hrt.trans q) (fun t ht hW => ⟨by unfold rvo; rw [q]; rfl, by rw [ht]; exact hR, gS⟩) hL hd hlocks
    · cases ha
  · rename_i q
    cases hr
    have hl1 : len = 1 := by simpa [lnk] using hl
    subst hl1
    unfold act at ha
    dsimp only at ha
    split at ha
    · cases ha
      intro H locs ls hR hL hl2 gL gS
      exact W.vret C.1.1 C.1.2.1 (hrt.trans q) (fun t ht hW => ⟨by unfold rvo; rw [q]; rfl, by rw [ht]; exact hR, RG.cons ⟨by decide, by decide⟩ RG.nil⟩) hL hd hlocks
    · cases ha
/-- a block -/
theorem snd_blk (C : Cx ε p R s m args meth c j d) (hM : MetOk d) {ini : Bool} (hini : ini = true → (yn j).name = "<init>") {zo : xZ} {vo : xV} {ro : xv} (hroom : zn zo ≤ zn z0 + R.cells ∧ zs zo ≤ zs z0 + R.slots)
    (hret : ∀ {pc : Nat} {L S : List xv} {z : xZ} {v : xV} {raw i : Instr} {len : Nat}, decode (bc j) pc = .ok (raw, len) → lnk raw len = true → rs (ow j) (ml j) (rt j) ini pc raw = some i → act i L S z v = some (.inr (.inr (.inr (zo, vo, ro)))) → Wx ε p l e R s m args below meth c Tg j z0 pc L S z v)
    {ft : Nat} : ∀ (is : List Instr) (pc : Nat) (L S : List xv) (z : xZ) (v : xV), zle z0 z → ckB (ow j) (ml j) (rt j) ini (bc j) pc is ft = true →
      xs (EvM TB d) (fun pc L S z v => zle z zo ∧ (zle z0 z → Wx ε p l e R s m args below meth c Tg j z0 pc L S z v)) ft (xEq zo vo ro) is L S z v → Wx ε p l e R s m args below meth c Tg j z0 pc L S z v
  | [], pc, L, S, z, v, h0, hc, h => by
    have e1 : pc = ft := by simpa [ckB] using hc
    subst e1
    exact h.2 h0
  | i :: is, pc, L, S, z, v, h0, hc, h => by
    unfold ckB at hc
    split at hc
    · rename_i raw len hd
      rw [Bool.and_eq_true, Bool.and_eq_true, Bool.or_eq_true] at hc
      obtain ⟨⟨hl, hr⟩, hrest⟩ := hc
      have hr := of_decide_eq_true hr
      have ho := act_oz i L S z v
      unfold xs at h
      split at h
      · exact h.elim
      · rename_i L' S' z' v' ea
        rw [ea] at ho
        have hz' : zle z' zo := xs_zle (EvM_dz TB d) (fun _ _ _ _ _ h => h.1) (fun z v r h => by rw [h.1]; exact zle.rf _) is _ _ _ _ h
        have hne : trm i = false := trm_cont ea
        have hck : ckB (ow j) (ml j) (rt j) ini (bc j) (pc + len) is ft = true := by
          rcases hrest with q | q
          · rw [hne] at q; cases q
          · exact q
        have K := snd_blk C hM hini hroom hret is (pc + len) L' S' z' v' (zle.tr h0 ho) hck h
        refine sn_step C hini h0 hd hl hr ?_
        rw [ea]
        exact ⟨⟨Nat.le_trans hz'.1 hroom.1, Nat.le_trans hz'.2 hroom.2⟩, K⟩
      · rename_i t L' S' z' v' ea
        rw [ea] at ho
        have ho : z' = z := ho
        refine sn_step C hini h0 hd hl hr ?_
        rw [ea]
        exact h.2 (by rw [ho]; exact h0)
      · rename_i k b as L' S' ea
        obtain ⟨z1, v1, r1, q1, q2, q3⟩ := EvM_dz TB d _ _ _ _ _ h
        have hz' : zle z1 zo := xs_zle (EvM_dz TB d) (fun _ _ _ _ _ h => h.1) (fun z v r h => by rw [h.1]; exact zle.rf _) is _ _ _ _ q2
        have hne : trm i = false := by
          rcases act_call ea with ⟨_, _, rfl⟩ | ⟨_, rfl⟩ <;> rfl
        have hck : ckB (ow j) (ml j) (rt j) ini (bc j) (pc + len) is ft = true := by
          rcases hrest with q | q
          · rw [hne] at q; cases q
          · exact q
        have K := snd_blk C hM hini hroom hret is (pc + len) L' _ z1 v1 (zle.tr h0 q1) hck q2
        exact sn_call C hM h0 hd hl hr K ea q3 q1 ⟨Nat.le_trans hz'.1 hroom.1, Nat.le_trans hz'.2 hroom.2⟩
      · rename_i z' v' r ea
        obtain ⟨rfl, rfl, rfl⟩ := h
        exact hret hd hl hr ea
    · cases hc
end SB
def inj (j : Nat) : Bool := decide ((yn j).name = "<init>")
theorem look3_ok {own ml : Nat} {rt : Option FieldType} {ini : Bool} {cc : ByteArray} : ∀ {bs : List (Nat × List Instr × Nat)} {pc : Nat}, ckM own ml rt ini cc bs = true → (look3 bs pc).1 = [.nop] ∨ ckB own ml rt ini cc pc (look3 bs pc).1 (look3 bs pc).2 = true
  | [], pc, _ => Or.inl rfl
  | (q, is, ft) :: bs, pc, h => by
    unfold ckM at h
    rw [List.all_cons, Bool.and_eq_true] at h
    unfold look3
    split
    · rename_i e1
      subst e1
      exact Or.inr h.1
    · exact look3_ok h.2
set_option maxRecDepth 100000 in
theorem ck_all (j : Nat) (h : j < 314) : ckM (ow j) (ml j) (rt j) (inj j) (bc j) (mbL.getD j []) = true := by
  match j, h with
  | 0, _ => exact ck_0
  | 1, _ => exact ck_1
  | 2, _ => exact ck_2
  | 3, _ => exact ck_3
  | 4, _ => exact ck_4
  | 5, _ => exact ck_5
  | 6, _ => exact ck_6
  | 7, _ => exact ck_7
  | 8, _ => exact ck_8
  | 9, _ => exact ck_9
  | 10, _ => exact ck_10
  | 11, _ => exact ck_11
  | 12, _ => exact ck_12
  | 13, _ => exact ck_13
  | 14, _ => exact ck_14
  | 15, _ => exact ck_15
  | 16, _ => exact ck_16
  | 17, _ => exact ck_17
  | 18, _ => exact ck_18
  | 19, _ => exact ck_19
  | 20, _ => exact ck_20
  | 21, _ => exact ck_21
  | 22, _ => exact ck_22
  | 23, _ => exact ck_23
  | 24, _ => exact ck_24
  | 25, _ => exact ck_25
  | 26, _ => exact ck_26
  | 27, _ => exact ck_27
  | 28, _ => exact ck_28
  | 29, _ => exact ck_29
  | 30, _ => exact ck_30
  | 31, _ => exact ck_31
  | 32, _ => exact ck_32
  | 33, _ => exact ck_33
  | 34, _ => exact ck_34
  | 35, _ => exact ck_35
  | 36, _ => exact ck_36
  | 37, _ => exact ck_37
  | 38, _ => exact ck_38
  | 39, _ => exact ck_39
  | 40, _ => exact ck_40
  | 41, _ => exact ck_41
  | 42, _ => exact ck_42
  | 43, _ => exact ck_43
  | 44, _ => exact ck_44
  | 45, _ => exact ck_45
  | 46, _ => exact ck_46
  | 47, _ => exact ck_47
  | 48, _ => exact ck_48
  | 49, _ => exact ck_49
  | 50, _ => exact ck_50
  | 51, _ => exact ck_51
  | 52, _ => exact ck_52
  | 53, _ => exact ck_53
  | 54, _ => exact ck_54
  | 55, _ => exact ck_55
  | 56, _ => exact ck_56
  | 57, _ => exact ck_57
  | 58, _ => exact ck_58
  | 59, _ => exact ck_59
  | 60, _ => exact ck_60
  | 61, _ => exact ck_61
  | 62, _ => exact ck_62
  | 63, _ => exact ck_63
  | 64, _ => exact ck_64
  | 65, _ => exact ck_65
  | 66, _ => exact ck_66
  | 67, _ => exact ck_67
  | 68, _ => exact ck_68
  | 69, _ => exact ck_69
  | 70, _ => exact ck_70
  | 71, _ => exact ck_71
  | 72, _ => exact ck_72
  | 73, _ => exact ck_73
  | 74, _ => exact ck_74
  | 75, _ => exact ck_75
  | 76, _ => exact ck_76
  | 77, _ => exact ck_77
  | 78, _ => exact ck_78
  | 79, _ => exact ck_79
  | 80, _ => exact ck_80
  | 81, _ => exact ck_81
  | 82, _ => exact ck_82
  | 83, _ => exact ck_83
  | 84, _ => exact ck_84
  | 85, _ => exact ck_85
  | 86, _ => exact ck_86
  | 87, _ => exact ck_87
  | 88, _ => exact ck_88
  | 89, _ => exact ck_89
  | 90, _ => exact ck_90
  | 91, _ => exact ck_91
  | 92, _ => exact ck_92
  | 93, _ => exact ck_93
  | 94, _ => exact ck_94
  | 95, _ => exact ck_95
  | 96, _ => exact ck_96
  | 97, _ => exact ck_97
  | 98, _ => exact ck_98
  | 99, _ => exact ck_99
  | 100, _ => exact ck_100
  | 101, _ => exact ck_101
  | 102, _ => exact ck_102
  | 103, _ => exact ck_103
  | 104, _ => exact ck_104
  | 105, _ => exact ck_105
  | 106, _ => exact ck_106
  | 107, _ => exact ck_107
  | 108, _ => exact ck_108
  | 109, _ => exact ck_109
  | 110, _ => exact ck_110
  | 111, _ => exact ck_111
  | 112, _ => exact ck_112
  | 113, _ => exact ck_113
  | 114, _ => exact ck_114
  | 115, _ => exact ck_115
  | 116, _ => exact ck_116
  | 117, _ => exact ck_117
  | 118, _ => exact ck_118
  | 119, _ => exact ck_119
  | 120, _ => exact ck_120
  | 121, _ => exact ck_121
  | 122, _ => exact ck_122
  | 123, _ => exact ck_123
  | 124, _ => exact ck_124
  | 125, _ => exact ck_125
  | 126, _ => exact ck_126
  | 127, _ => exact ck_127
  | 128, _ => exact ck_128
  | 129, _ => exact ck_129
  | 130, _ => exact ck_130
  | 131, _ => exact ck_131
  | 132, _ => exact ck_132
  | 133, _ => exact ck_133
  | 134, _ => exact ck_134
  | 135, _ => exact ck_135
  | 136, _ => exact ck_136
  | 137, _ => exact ck_137
  | 138, _ => exact ck_138
  | 139, _ => exact ck_139
  | 140, _ => exact ck_140
  | 141, _ => exact ck_141
  | 142, _ => exact ck_142
  | 143, _ => exact ck_143
  | 144, _ => exact ck_144
  | 145, _ => exact ck_145
  | 146, _ => exact ck_146
  | 147, _ => exact ck_147
  | 148, _ => exact ck_148
  | 149, _ => exact ck_149
  | 150, _ => exact ck_150
  | 151, _ => exact ck_151
  | 152, _ => exact ck_152
  | 153, _ => exact ck_153
  | 154, _ => exact ck_154
  | 155, _ => exact ck_155
  | 156, _ => exact ck_156
  | 157, _ => exact ck_157
  | 158, _ => exact ck_158
  | 159, _ => exact ck_159
  | 160, _ => exact ck_160
  | 161, _ => exact ck_161
  | 162, _ => exact ck_162
  | 163, _ => exact ck_163
  | 164, _ => exact ck_164
  | 165, _ => exact ck_165
  | 166, _ => exact ck_166
  | 167, _ => exact ck_167
  | 168, _ => exact ck_168
  | 169, _ => exact ck_169
  | 170, _ => exact ck_170
  | 171, _ => exact ck_171
  | 172, _ => exact ck_172
  | 173, _ => exact ck_173
  | 174, _ => exact ck_174
  | 175, _ => exact ck_175
  | 176, _ => exact ck_176
  | 177, _ => exact ck_177
  | 178, _ => exact ck_178
  | 179, _ => exact ck_179
  | 180, _ => exact ck_180
  | 181, _ => exact ck_181
  | 182, _ => exact ck_182
  | 183, _ => exact ck_183
  | 184, _ => exact ck_184
  | 185, _ => exact ck_185
  | 186, _ => exact ck_186
  | 187, _ => exact ck_187
  | 188, _ => exact ck_188
  | 189, _ => exact ck_189
  | 190, _ => exact ck_190
  | 191, _ => exact ck_191
  | 192, _ => exact ck_192
  | 193, _ => exact ck_193
  | 194, _ => exact ck_194
  | 195, _ => exact ck_195
  | 196, _ => exact ck_196
  | 197, _ => exact ck_197
  | 198, _ => exact ck_198
  | 199, _ => exact ck_199
  | 200, _ => exact ck_200
  | 201, _ => exact ck_201
  | 202, _ => exact ck_202
  | 203, _ => exact ck_203
  | 204, _ => exact ck_204
  | 205, _ => exact ck_205
  | 206, _ => exact ck_206
  | 207, _ => exact ck_207
  | 208, _ => exact ck_208
  | 209, _ => exact ck_209
  | 210, _ => exact ck_210
  | 211, _ => exact ck_211
  | 212, _ => exact ck_212
  | 213, _ => exact ck_213
  | 214, _ => exact ck_214
  | 215, _ => exact ck_215
  | 216, _ => exact ck_216
  | 217, _ => exact ck_217
  | 218, _ => exact ck_218
  | 219, _ => exact ck_219
  | 220, _ => exact ck_220
  | 221, _ => exact ck_221
  | 222, _ => exact ck_222
  | 223, _ => exact ck_223
  | 224, _ => exact ck_224
  | 225, _ => exact ck_225
  | 226, _ => exact ck_226
  | 227, _ => exact ck_227
  | 228, _ => exact ck_228
  | 229, _ => exact ck_229
  | 230, _ => exact ck_230
  | 231, _ => exact ck_231
  | 232, _ => exact ck_232
  | 233, _ => exact ck_233
  | 234, _ => exact ck_234
  | 235, _ => exact ck_235
  | 236, _ => exact ck_236
  | 237, _ => exact ck_237
  | 238, _ => exact ck_238
  | 239, _ => exact ck_239
  | 240, _ => exact ck_240
  | 241, _ => exact ck_241
  | 242, _ => exact ck_242
  | 243, _ => exact ck_243
  | 244, _ => exact ck_244
  | 245, _ => exact ck_245
  | 246, _ => exact ck_246
  | 247, _ => exact ck_247
  | 248, _ => exact ck_248
  | 249, _ => exact ck_249
  | 250, _ => exact ck_250
  | 251, _ => exact ck_251
  | 252, _ => exact ck_252
  | 253, _ => exact ck_253
  | 254, _ => exact ck_254
  | 255, _ => exact ck_255
  | 256, _ => exact ck_256
  | 257, _ => exact ck_257
  | 258, _ => exact ck_258
  | 259, _ => exact ck_259
  | 260, _ => exact ck_260
  | 261, _ => exact ck_261
  | 262, _ => exact ck_262
  | 263, _ => exact ck_263
  | 264, _ => exact ck_264
  | 265, _ => exact ck_265
  | 266, _ => exact ck_266
  | 267, _ => exact ck_267
  | 268, _ => exact ck_268
  | 269, _ => exact ck_269
  | 270, _ => exact ck_270
  | 271, _ => exact ck_271
  | 272, _ => exact ck_272
  | 273, _ => exact ck_273
  | 274, _ => exact ck_274
  | 275, _ => exact ck_275
  | 276, _ => exact ck_276
  | 277, _ => exact ck_277
  | 278, _ => exact ck_278
  | 279, _ => exact ck_279
  | 280, _ => exact ck_280
  | 281, _ => exact ck_281
  | 282, _ => exact ck_282
  | 283, _ => exact ck_283
  | 284, _ => exact ck_284
  | 285, _ => exact ck_285
  | 286, _ => exact ck_286
  | 287, _ => exact ck_287
  | 288, _ => exact ck_288
  | 289, _ => exact ck_289
  | 290, _ => exact ck_290
  | 291, _ => exact ck_291
  | 292, _ => exact ck_292
  | 293, _ => exact ck_293
  | 294, _ => exact ck_294
  | 295, _ => exact ck_295
  | 296, _ => exact ck_296
  | 297, _ => exact ck_297
  | 298, _ => exact ck_298
  | 299, _ => exact ck_299
  | 300, _ => exact ck_300
  | 301, _ => exact ck_301
  | 302, _ => exact ck_302
  | 303, _ => exact ck_303
  | 304, _ => exact ck_304
  | 305, _ => exact ck_305
  | 306, _ => exact ck_306
  | 307, _ => exact ck_307
  | 308, _ => exact ck_308
  | 309, _ => exact ck_309
  | 310, _ => exact ck_310
  | 311, _ => exact ck_311
  | 312, _ => exact ck_312
  | 313, _ => exact ck_313
  | n + 314, h => exact absurd h (by omega)
theorem blk_ok {d j : Nat} (h : j < 314) {X : Nat → List xv → List xv → xZ → xV → Prop} {Q : xZ → xV → xv → Prop} {pc : Nat} {L S : List xv} {z : xZ} {v : xV} (hx : xs (EvM TB d) X (TB j pc).2 Q (TB j pc).1 L S z v) : ckB (ow j) (ml j) (rt j) (inj j) (bc j) pc (TB j pc).1 (TB j pc).2 = true := by
  rcases look3_ok (pc := pc) (ck_all j h) with q | q
  · have q : (TB j pc).1 = [.nop] := q
    rw [q] at hx
    exact hx.elim
  · exact q
/-- THE CONTRACTS: by the depth -/
theorem met_all : ∀ d, MetOk d
  | 0 => fun j z v as zo vo ro _ _ h => h.elim
  | d + 1 => fun j z v as zo vo ro h0 hj hE hlen hpad gA l ε => by
    have hM := met_all d
    obtain ⟨o1, o2, o3, o4, o5, o6⟩ := mOk_all j h0 hj
    refine Met.ofW (cc := bc j) (maxL := ml j) (ret := rt j) o4 rfl ?_
    intro p e s m args below meth c s₁ B hml hv
    obtain ⟨rfl, hT, hR⟩ := hv
    have hz : zle z zo := by
      obtain ⟨z1, v1, r1, q1, q2, -⟩ := EvM_dz TB (d + 1) _ _ _ _ _ hE
      rw [q2.1] at q1
      exact q1
    have hts := atoms_spec (ws := wsj j) B.pre
    have C : Cx ε p (headSpec (wsj j) (rmx (d + 1) (zn zo - zn z) (zs zo - zs z))).room s m (as.map (cv ε)).toArray meth c j d := by
      refine ⟨⟨B.exec, B.bytes, hml, B.returns, B.notSynchronized⟩, ?_, fun w h g => hts w (List.mem_cons_of_mem _ (lwG_mem h g)), hT, fun h => ?_, Nat.le_refl _, ?_⟩
      · rw [o5]
        exact findClass_of_methodNamed B.named
      · rw [← h]
        exact (name_of_methodNamed B.named B.method).1
      · show 64 * d + 128 ≤ 64 * (d + 1) + 64
        omega
    have hroom : zn zo ≤ zn z + (headSpec (wsj j) (rmx (d + 1) (zn zo - zn z) (zs zo - zs z))).room.cells ∧ zs zo ≤ zs z + (headSpec (wsj j) (rmx (d + 1) (zn zo - zn z) (zs zo - zs z))).room.slots := by
      have h1 := hz.1
      have h2 := hz.2
      constructor
      · show zn zo ≤ zn z + (zn zo - zn z)
        omega
      · show zs zo ≤ zs z + (zs zo - zs z)
        omega
    have hg : zle z zo ∧ (zle z z → Wx ε p l e (headSpec (wsj j) (rmx (d + 1) (zn zo - zn z) (zs zo - zs z))).room s m (as.map (cv ε)).toArray below meth c (MQ below (Qcx ε j zo vo ro) (as.map (cv ε)).toArray s (zn zo - zn z) (zs zo - zs z) (eA ε)) j z 0 (lay as) [] z v) := by
      refine hE (fun pc L S z' v => zle z' zo ∧ (zle z z' → Wx ε p l e (headSpec (wsj j) (rmx (d + 1) (zn zo - zn z) (zs zo - zs z))).room s m (as.map (cv ε)).toArray below meth c (MQ below (Qcx ε j zo vo ro) (as.map (cv ε)).toArray s (zn zo - zn z) (zs zo - zs z) (eA ε)) j z pc L S z' v)) ?_
      intro pc L S z' v' hx
      refine ⟨xs_zle (EvM_dz TB d) (fun _ _ _ _ _ h => h.1) (fun z v r h => by rw [h.1]; exact zle.rf _) _ _ _ _ _ hx, fun h0' => ?_⟩
      exact snd_blk C hM (ini := inj j) (fun h => of_decide_eq_true h) hroom (fun hd hl hr ha => sn_ret C hd hl hr ha) _ pc L S z' v' h0' (blk_ok hj hx) hx
    have w := hg.2 (zle.rf z) s.heap [] ((lg_sl (as.map (cv ε)) ++ List.replicate (ml j - (lg_sl (as.map (cv ε))).length) Slot.unset).toArray) hR (fun q hq => by cases hq) (by
      unfold LR
      rw [pr_lay as 0 hpad]
      exact lv_entry (as.map (cv ε)) (by rw [sl_len as hpad]; exact hlen)) gA.lay RG.nil
    rw [Nat.sub_self, Nat.sub_self] at w
    rw [lg_entry_eq]
    exact w
