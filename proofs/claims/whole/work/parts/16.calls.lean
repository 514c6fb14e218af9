/-! ===== a call of the small machine is one of the JVM ===== -/
abbrev nMeth : Nat := 314
def wsj (j : Nat) : List Cond := Cond.code (yn j) (bc j) (ml j) (rt j) :: lwG
def rmx (d mc ms : Nat) : Room := { frames := d, cells := mc, slots := ms, locals := 64 * d + 64 }
def rvo (ε : xE) (j : Nat) (r : xv) : Option Value := if rt j = none then none else some (cv ε r)
abbrev xEq (zo : xZ) (vo : xV) (ro : xv) : xZ → xV → xv → Prop := fun z1 v1 r1 => z1 = zo ∧ v1 = vo ∧ r1 = ro
abbrev Pcx (ε : xE) (z : xZ) (v : xV) (as : List xv) : Array Value → State → Prop := va_Pc (as.map (cv ε)) (fun U => Tab ε U ∧ RelH ε z v U.heap)
abbrev Qcx (ε : xE) (j : Nat) (zo : xZ) (vo : xV) (ro : xv) : Array Value → State → Outcome → State → Prop := fun _ _ o t => o = .returned (rvo ε j ro) ∧ RelH ε zo vo t.heap ∧ RG [ro]
/-- the contracts of all methods at depth d -/
def MetOk (d : Nat) : Prop := ∀ (j : Nat) (z : xZ) (v : xV) (as : List xv) (zo : xZ) (vo : xV) (ro : xv), 0 < j → j < nMeth → EvM TB d j z v as (xEq zo vo ro) → (lay as).length ≤ ml j → (∀ x ∈ as, x ≠ .inr (.inr (.inr ()))) → RG as →
  ∀ (l : Launch) (ε : xE), Met l (yn j) (wsj j) (rmx d (zn zo - zn z) (zs zo - zs z)) (Pcx ε z v as) (Qcx ε j zo vo ro) (zn zo - zn z) (zs zo - zs z) (eA ε)
theorem blind_x (ε : xE) (z : xZ) (v : xV) (as : List xv) : FrameBlind (Pcx ε z v as) := fun a U g mk h => ⟨h.1, Tab.same rfl h.2.1, h.2.2⟩
section SC
variable {ε : xE} {p : Program} {l : Launch} {e : Env} {R : Room} {s : State} {m : MethodId} {args : Array Value} {below : List Frame} {meth : Method} {c : Code} {Tg : State → Prop} {j d : Nat} {z0 : xZ} {pc : Nat} {L S : List xv} {z : xZ} {v : xV}
theorem wsj_ok (C : Cx ε p R s m args meth c j d) {k : Nat} (h0 : 0 < k) (hk : k < nMeth) : ∀ w ∈ wsj k, ∀ (a' : Array Value) (U : State), s.WarmedH U.vm → w.before a' U = true := by
  intro w hw a' U hW
  have h : w ∈ lw_tbl ∧ goodWord w = true := by
    rcases List.mem_cons.mp hw with q | q
    · rw [q]
      exact ⟨cw_all k h0 hk, rfl⟩
    · exact List.mem_filter.mp q
  exact word_at hW (good_of_word h.2) (C.2.2.1 w h.1 h.2)
theorem callB_x (C : Cx ε p R s m args meth c j d) {k i mc ms n : Nat} (h0 : 0 < k) (hk : k < nMeth) (hl : Cond.methodLink (on (ow j)) i (yn k) ∈ lw_tbl) (hn : npar k = some n) : CallB R s args (on (ow j)) i (yn k) (bc k) (ml k) (rt k) (wsj k) (rmx d mc ms) mc ms n := by
  obtain ⟨o1, o2, o3, o4, o5, o6⟩ := mOk_all k h0 hk
  have hlo := C.2.2.2.2.2.2
  have hfr := C.2.2.2.2.2.1
  refine ⟨rfl, rfl, hfr, by show 8 + (ml k + 11) + (64 * d + 64) ≤ _; omega, wsj_ok C h0 hk, List.mem_cons_self, C.2.2.1 _ (cw_all k h0 hk) rfl, C.2.2.1 _ (wd_mem o1) rfl, o3, fun sig h => ?_, C.2.2.1 _ hl rfl⟩
  unfold npar at hn
  rw [h] at hn
  exact (Option.some.inj hn).symm
theorem callN_x (C : Cx ε p R s m args meth c j d) {k i mc ms n : Nat} {host : String} (h0 : 0 < k) (hk : k < nMeth) (hl : (on (ow j), i, yn k, host) ∈ nwQ) (hn : npar k = some n) : va_CN R s args (on (ow j)) i (yn k) host (bc k) (ml k) (rt k) (wsj k) (rmx d mc ms) mc ms n := by
  obtain ⟨o1, o2, o3, o4, o5, o6⟩ := mOk_all k h0 hk
  have hlo := C.2.2.2.2.2.2
  have hfr := C.2.2.2.2.2.1
  refine ⟨⟨rfl, rfl, hfr, by show 8 + (ml k + 11) + (64 * d + 64) ≤ _; omega, wsj_ok C h0 hk, List.mem_cons_self⟩, C.2.2.1 _ (cw_all k h0 hk) rfl, C.2.2.1 _ (wd_mem o1) rfl, o3, fun sig h => ?_, va_Nw.use rfl (C.T.2.2.1 _ hl)⟩
  unfold npar at hn
  rw [h] at hn
  exact (Option.some.inj hn).symm
/-- behind a call -/
theorem w_after {k : Nat} {zo : xZ} {vo : xV} {ro : xv} {H : Heap} {locs : List Loc} {cs sl mc ms : Nat} {ls : Array Slot} {stk rest : List Value} {Qa : State → Outcome → State → Prop} (run : va_Run p l e R s m args below meth c H locs cs sl mc ms (F0 m pc ls stk) rest Qa (eA ε)) (hQ : ∀ st o t, Qa st o t → Qcx ε k zo vo ro #[] st o t) (hL : ∀ q ∈ locs, eB ε ≤ q.base)
    (K : RG [ro] → ∀ (H' : Heap) (locs' : List Loc), RelH ε zo vo H' → (∀ q ∈ locs', eB ε ≤ q.base) → W p l e R s m args below meth c H' locs' (cs + mc) (sl + ms) Tg (F0 m (pc + 3) ls ((rvo ε k ro).toList ++ rest))) : W p l e R s m args below meth c H locs cs sl Tg (F0 m pc ls stk) := by
  intro T hT X
  obtain ⟨v', st, t, T', L', hst, X', hLf, hheap, hvm, hq, hgo⟩ := run T hT X
  obtain ⟨h1, h2, h3⟩ := hQ _ _ _ hq
  have h1 : v' = rvo ε k ro := by
    have := Outcome.returned.inj h1
    exact this
  subst h1
  obtain ⟨t2, a1, b1⟩ := K h3 T'.heap (locs ++ L') (by rw [hheap]; exact h2) (fun q hq => by
    rcases List.mem_append.mp hq with h | h
    · exact hL q h
    · exact hLf q h) T' rfl X'
  exact ⟨t2, hgo t2 a1, b1⟩
theorem nwQ_of {k i : Nat} (h : ∃ q ∈ nwQ, q.1 = on (ow j) ∧ q.2.1 = i ∧ q.2.2.1 = yn k) : ∃ host, (on (ow j), i, yn k, host) ∈ nwQ := by
  obtain ⟨⟨q1, q2, q3, q4⟩, hq, e1, e2, e3⟩ := h
  dsimp only at e1 e2 e3
  subst e2
  rw [e1, e3] at hq
  exact ⟨q4, hq⟩
theorem map_rev (ε : xE) (t r : List xv) : (t ++ r).map (cv ε) = (t.reverse.map (cv ε)).reverse ++ r.map (cv ε) := by
  rw [List.map_append, ← List.map_reverse, List.reverse_reverse]
/-- a static call -/
theorem w_callS (C : Cx ε p R s m args meth c j d) (hM : MetOk d) {k i n : Nat} {as r : List xv} {zo : xZ} {vo : xV} {ro : xv} (h0 : 0 < k) (hk : k < nMeth) (hl : Cond.methodLink (on (ow j)) i (yn k) ∈ lw_tbl ∨ ∃ q ∈ nwQ, q.1 = on (ow j) ∧ q.2.1 = i ∧ q.2.2.1 = yn k) (hst : mS k = true) (hn : npar k = some n) (hal : as.length = n)
    (hlen : (lay as).length ≤ ml k) (hpad : ∀ x ∈ as, x ≠ .inr (.inr (.inr ()))) (hE : EvM TB d k z v as (xEq zo vo ro)) (hz : zle z zo) (h00 : zn z0 ≤ zn z ∧ zs z0 ≤ zs z) (hroom : zn zo ≤ zn z0 + R.cells ∧ zs zo ≤ zs z0 + R.slots) (hd : decode (bc j) pc = .ok (.invokestatic i, 3)) (hs4 : sh4 r = true)
    (K : Wx ε p l e R s m args below meth c Tg j z0 (pc + 3) L (if rt k = none then r else ro :: r) zo vo) : Wx ε p l e R s m args below meth c Tg j z0 pc L (as.reverse ++ r) z v := by
  intro H locs ls hR hL hl2 gL gS
  obtain ⟨o1, o2, o3, o4, o5, o6⟩ := mOk_all k h0 hk
  rw [if_pos hst] at o2
  have gA : RG as := RG_mem.mpr fun x hx => RG_mem.mp gS x (List.mem_append_left _ (List.mem_reverse.mpr hx))
  have hMet := hM k z v as zo vo ro h0 hk hE hlen hpad gA l ε
  have hpre : PreS s H (Pcx ε z v as) (as.map (cv ε)) := ⟨blind_x ε z v as, fun U hU hW => ⟨rfl, Tab.warm hW C.T, by rw [hU]; exact hR⟩⟩
  have hcat := sh4_cat (ε := ε) hs4
  have hz1 := hz.1
  have hz2 := hz.2
  have run : va_Run p l e R s m args below meth c H locs (zn z - zn z0) (zs z - zs z0) (zn zo - zn z) (zs zo - zs z) (F0 m pc ls ((as.map (cv ε)).reverse ++ r.map (cv ε))) (r.map (cv ε)) (Qcx ε k zo vo ro (as.map (cv ε)).toArray) (eA ε) := by
    rcases hl with hl | hl
    · exact va_runS (Ts := lwG) ⟨C.1.1, C.1.2.1, C.1.2.2.1, C.2.1, C.G⟩ hMet ⟨callB_x C h0 hk hl hn, C.2.2.1 _ (wd_mem o2) rfl⟩ hpre rfl (by rw [List.length_map]; exact hal) hl2.1 rfl (lv_room hcat) hd ⟨by omega, by omega⟩
    · obtain ⟨host, hh⟩ := nwQ_of hl
      exact va_runSN (Ts := lwG) ⟨C.1.1, C.1.2.1, C.1.2.2.1, C.2.1, C.G⟩ hMet ⟨callN_x C h0 hk hh hn, C.2.2.1 _ (wd_mem o2) rfl, trivial⟩ hpre rfl (by rw [List.length_map]; exact hal) hl2.1 rfl (lv_room hcat) hd ⟨by omega, by omega⟩
  have e1 : (as.reverse ++ r).map (cv ε) = (as.map (cv ε)).reverse ++ r.map (cv ε) := by rw [map_rev, List.reverse_reverse]
  rw [e1]
  refine w_after run (fun _ _ _ h => h) hL fun hro H' locs' hR' hL' => ?_
  have e2 : zn z - zn z0 + (zn zo - zn z) = zn zo - zn z0 := by omega
  have e3 : zs z - zs z0 + (zs zo - zs z) = zs zo - zs z0 := by omega
  rw [e2, e3]
  have gr : RG r := gS.app
  unfold rvo
  by_cases q : rt k = none
  · rw [if_pos q] at K ⊢
    exact K H' locs' ls hR' hL' hl2 gL gr
  · rw [if_neg q] at K ⊢
    refine K H' locs' ls hR' hL' hl2 gL ?_
    match ro, hro with
    | .inl x, hro => exact RG.cons hro.hd gr
    | .inr x, _ => exact RG.consR gr
/-- the receiver of a call -/
theorem recv_x (C : Cx ε p R s m args meth c j d) {H : Heap} (hR : RelH ε z v H) {a t k : Nat} (hz : zh z a = t) (ht : t < 11 ∧ (yn k).cls = on t ∨ t = 50 ∧ (yn k).cls = "java/lang/String") : ∃ b, rf ε a = .ref b ∧ ∃ cellB : Cell, H[b]? = some cellB ∧ cellB.vm.isStatics = false ∧ s.vm.findClass (yn k).cls = some cellB.cls := by
  rcases ht with ⟨ht, hc⟩ | ⟨rfl, hc⟩
  · obtain ⟨ha, hb, cell, q1, q2, q3, q4⟩ := obj_at C.T hR hz ht
    exact ⟨ra ε a, rf_hi ha, cell, q1, by rw [q3]; rfl, by rw [hc, q2]; exact (C.K.1 t _ (cls_t t ht)).2.1⟩
  · have ha := old_at C.T hR hz (Or.inl rfl)
    have hag := hR.2.2.2.1 a ha
    obtain ⟨r1, hr1, hO, -⟩ := (C.T.2.2.2.2.2.1 a ha).2.2 (hag.1.symm.trans hz)
    obtain ⟨cell, h1, h2, h3, -⟩ := hO.kept (hR.kept C.T)
    exact ⟨r1, hr1, cell, h1, h2, by rw [hc]; exact h3⟩
/-- a virtual call, a constructor's -/
theorem w_callV (C : Cx ε p R s m args meth c j d) (hM : MetOk d) {k i n t a : Nat} {as r : List xv} {zo : xZ} {vo : xV} {ro : xv} (h0 : 0 < k) (hk : k < nMeth) (hst : mS k = false) (hn : npar k = some n) (hal : as.length = n) (hzt : zh z a = t) (ht : t < 11 ∧ (yn k).cls = on t ∨ t = 50 ∧ (yn k).cls = "java/lang/String")
    (hlen : (lay (.inr (.inl a) :: as)).length ≤ ml k) (hpad : ∀ x ∈ as, x ≠ .inr (.inr (.inr ()))) (hE : EvM TB d k z v (.inr (.inl a) :: as) (xEq zo vo ro)) (hz : zle z zo) (h00 : zn z0 ≤ zn z ∧ zs z0 ≤ zs z) (hroom : zn zo ≤ zn z0 + R.cells ∧ zs zo ≤ zs z0 + R.slots) (hs4 : sh4 r = true)
    (hk2 : (decode (bc j) pc = .ok (.invokevirtual i, 3) ∧ (yn k).name ≠ "<init>" ∧ Cond.methodLink (on (ow j)) i (yn k) ∈ lw_tbl) ∨ (decode (bc j) pc = .ok (.invokespecial i, 3) ∧ (yn k).name = "<init>" ∧ rt k = none ∧ (Cond.methodLink (on (ow j)) i (yn k) ∈ lw_tbl ∨ ∃ q ∈ nwQ, q.1 = on (ow j) ∧ q.2.1 = i ∧ q.2.2.1 = yn k)))
    (K : Wx ε p l e R s m args below meth c Tg j z0 (pc + 3) L (if rt k = none then r else ro :: r) zo vo) : Wx ε p l e R s m args below meth c Tg j z0 pc L (as.reverse ++ .inr (.inl a) :: r) z v := by
  intro H locs ls hR hL hl2 gL gS
  obtain ⟨o1, o2, o3, o4, o5, o6⟩ := mOk_all k h0 hk
  rw [if_neg (by rw [hst]; decide)] at o2
  have gA : RG (.inr (.inl a) :: as) := RG_mem.mpr fun x hx => RG_mem.mp gS x (by
    rcases List.mem_cons.mp hx with q | q
    · cases q
    · exact List.mem_append_left _ (List.mem_reverse.mpr q))
  have hMet := hM k z v (.inr (.inl a) :: as) zo vo ro h0 hk hE hlen (fun x hx => by
    rcases List.mem_cons.mp hx with q | q
    · rw [q]; simp
    · exact hpad x q) gA l ε
  obtain ⟨b, hb, hcell⟩ := recv_x C hR hzt ht
  have e0 : ((.inr (.inl a) :: as : List xv)).map (cv ε) = .ref b :: as.map (cv ε) := by
    rw [List.map_cons, show cv ε (.inr (.inl a)) = rf ε a from rfl, hb]
  have hpre : ∀ U : State, U.heap = H → s.WarmedH U.vm → Pcx ε z v (.inr (.inl a) :: as) (Value.ref b :: as.map (cv ε)).toArray U := fun U hU hW => ⟨by rw [e0], Tab.warm hW C.T, by rw [hU]; exact hR⟩
  have hcat := sh4_cat (ε := ε) hs4
  have hz1 := hz.1
  have hz2 := hz.2
  have run : va_Run p l e R s m args below meth c H locs (zn z - zn z0) (zs z - zs z0) (zn zo - zn z) (zs zo - zs z) (F0 m pc ls ((as.map (cv ε)).reverse ++ .ref b :: r.map (cv ε))) (r.map (cv ε)) (Qcx ε k zo vo ro (Value.ref b :: as.map (cv ε)).toArray) (eA ε) := by
    rcases hk2 with ⟨hd, hni, hl⟩ | ⟨hd, hni, hrt, hl⟩
    · have hsel : Cond.selects (yn k).cls (yn k) (yn k) ∈ lw_tbl := by
        rcases o2.2 with q | q
        · exact absurd q hni
        · exact wd_mem q
      exact va_runV (Ts := lwG) ⟨C.1.1, C.1.2.1, C.1.2.2.1, C.2.1, C.G⟩ hMet ⟨callB_x C h0 hk hl hn, C.2.2.1 _ (wd_mem o2.1) rfl, C.2.2.1 _ hsel rfl⟩ ⟨blind_x _ _ _ _, hcell, hpre⟩ rfl (by rw [List.length_map]; exact hal) hl2.1 rfl (lv_room hcat) hd ⟨by omega, by omega⟩
    · rcases hl with hl | hl
      · have cb := callB_x (mc := zn zo - zn z) (ms := zs zo - zs z) C h0 hk hl hn
        rw [hrt] at cb
        exact va_runI (Ts := lwG) ⟨C.1.1, C.1.2.1, C.1.2.2.1, C.2.1, C.G⟩ hMet ⟨cb, hni, C.2.2.1 _ (wd_mem o2.1) rfl⟩ ⟨blind_x _ _ _ _, hpre⟩ rfl (by rw [List.length_map]; exact hal) hl2.1 rfl (lv_room hcat) hd ⟨by omega, by omega⟩
      · obtain ⟨host, hh⟩ := nwQ_of hl
        have cb := callN_x (mc := zn zo - zn z) (ms := zs zo - zs z) C h0 hk hh hn
        rw [hrt] at cb
        exact va_runIN (Ts := lwG) ⟨C.1.1, C.1.2.1, C.1.2.2.1, C.2.1, C.G⟩ hMet ⟨cb, hni, C.2.2.1 _ (wd_mem o2.1) rfl⟩ ⟨blind_x _ _ _ _, hpre⟩ rfl (by rw [List.length_map]; exact hal) hl2.1 rfl (lv_room hcat) hd ⟨by omega, by omega⟩
  have e1 : (as.reverse ++ .inr (.inl a) :: r).map (cv ε) = (as.map (cv ε)).reverse ++ .ref b :: r.map (cv ε) := by
    rw [map_rev, List.reverse_reverse, List.map_cons, show cv ε (.inr (.inl a)) = rf ε a from rfl, hb]
  rw [e1]
  refine w_after run (fun _ _ _ h => h) hL fun hro H' locs' hR' hL' => ?_
  have e2 : zn z - zn z0 + (zn zo - zn z) = zn zo - zn z0 := by omega
  have e3 : zs z - zs z0 + (zs zo - zs z) = zs zo - zs z0 := by omega
  rw [e2, e3]
  have gr : RG r := (gS.app).tl
  unfold rvo
  by_cases q : rt k = none
  · rw [if_pos q] at K ⊢
    exact K H' locs' ls hR' hL' hl2 gL gr
  · rw [if_neg q] at K ⊢
    refine K H' locs' ls hR' hL' hl2 gL ?_
    match ro, hro with
    | .inl x, hro => exact RG.cons hro.hd gr
    | .inr x, _ => exact RG.consR gr
end SC
