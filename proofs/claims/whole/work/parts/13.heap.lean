/-! ===== instructions that read and write cells ===== -/
def lwG : List Cond := lw_tbl.filter (fun w => goodWord w)
theorem lwG_mem {w : Cond} (h : w ∈ lw_tbl) (g : goodWord w = true) : w ∈ lwG := List.mem_filter.mpr ⟨h, g⟩
theorem lay_G (t : Nat) (ht : t < 11) : ∀ w ∈ u_ws (on t) (fT t) (cN t), w ∈ lwG := fun w hw => by
  refine lwG_mem (lay_t t ht w hw) ?_
  obtain ⟨k, -, rfl⟩ := List.mem_map.mp hw
  unfold u_lay
  split <;> rfl
theorem dcl_t : ∀ t, t < 11 → ∀ k, k < cN t → (fT t k).1 = on t := by decide +kernel
theorem fyOk_t : ∀ t, t < 11 → ∀ k, k < cN t → isRefT (fy t k) = true ∨ fy t k = .int ∨ fy t k = .boolean := by decide +kernel
theorem cN_lt : ∀ t, t < 11 → cN t < 128 := by decide
theorem fl_ok {o i t k : Nat} (h : look tF o i = some (t, k)) : Cond.fieldLink (on o) i (fT t k).1 (fT t k).2.1 (fT t k).2.2.1 ∈ lw_tbl ∧ ((t < 11 ∧ k < cN t) ∨ (t = 50 ∧ k < 2)) ∧ k < 128 := by
  obtain ⟨h2, h3, q, hq, he⟩ := tFp_all _ (look_mem h)
  have h4 := wd_mem (tFp_ok q hq)
  obtain ⟨q1, q2, q3, q4, q5⟩ := q
  simp only [Prod.mk.injEq] at he
  obtain ⟨rfl, rfl, rfl, rfl⟩ := he
  exact ⟨h4, h2, h3⟩
theorem kd_i {t k : Nat} (ht : t < 50) (h : isRefT (fy t k) = false) : kd t k = 0 := by
  unfold kd
  rw [if_pos ht, h]
  rfl
theorem kd_r {t k : Nat} (ht : t < 50) (h : isRefT (fy t k) = true) : kd t k = 1 := by
  unfold kd
  rw [if_pos ht, if_pos h]
theorem sv_i {ε : xE} {z : xZ} {v : xV} {a k : Nat} (h : kd (zh z a) k = 0) : sv ε z v a k = .int (Int32.ofInt (v a k)) := by
  unfold sv
  rw [h]
  rfl
theorem sv_r {ε : xE} {z : xZ} {v : xV} {a k : Nat} (h : kd (zh z a) k = 1) : sv ε z v a k = rf ε (zr z a k) := by
  unfold sv
  rw [h]
  rfl
theorem sv_l {ε : xE} {z : xZ} {v : xV} {a k : Nat} (h : kd (zh z a) k = 2) : sv ε z v a k = .long (zw z a k) := by
  unfold sv
  rw [h]
  rfl
theorem sv_up {ε : xE} {z : xZ} {v : xV} {a k : Nat} {x : Int} (h : kd (zh z a) k = 0) : sv ε z (up v a k x) a = updV (sv ε z v a) k (.int (Int32.ofInt x)) := by
  funext i
  unfold sv updV up
  by_cases e : i = k
  · subst e
    simp [h]
  · simp [e]
theorem sv_upR {ε : xE} {z : xZ} {v : xV} {a k b : Nat} (h : kd (zh z a) k = 1) : sv ε (upR z a k b) v a = updV (sv ε z v a) k (rf ε b) := by
  funext i
  have e1 : zh (upR z a k b) a = zh z a := rfl
  have e2 : zw (upR z a k b) a i = zw z a i := rfl
  have e3 : zr (upR z a k b) a i = if i = k then b else zr z a i := by
    show (if a = a ∧ i = k then b else zr z a i) = _
    simp
  unfold sv updV
  rw [e1, e2, e3]
  by_cases e : i = k
  · subst e
    simp [h]
  · simp [e]
theorem sv_upW {ε : xE} {z : xZ} {v : xV} {a k : Nat} {x : Int64} (h : kd (zh z a) k = 2) : sv ε (upW z a k x) v a = updV (sv ε z v a) k (.long x) := by
  funext i
  have e1 : zh (upW z a k x) a = zh z a := rfl
  have e2 : zr (upW z a k x) a i = zr z a i := rfl
  have e3 : zw (upW z a k x) a i = if i = k then x else zw z a i := by
    show (if a = a ∧ i = k then x else zw z a i) = _
    simp
  unfold sv updV
  rw [e1, e2, e3]
  by_cases e : i = k
  · subst e
    simp [h]
  · simp [e]
theorem agr_up {b a k : Nat} {z : xZ} {v : xV} {x : Int} (h : b ≠ a) : agr b z v z (up v a k x) := ⟨rfl, rfl, fun _ => rfl, fun _ => rfl, fun i => by unfold up; simp [h]⟩
theorem agr_upR {b a k c : Nat} {z : xZ} {v : xV} (h : b ≠ a) : agr b z v (upR z a k c) v := ⟨rfl, rfl, fun i => by show (if b = a ∧ i = k then c else zr z b i) = _; simp [h], fun _ => rfl, fun i => rfl⟩
theorem agr_upW {b a k : Nat} {z : xZ} {v : xV} {x : Int64} (h : b ≠ a) : agr b z v (upW z a k x) v := ⟨rfl, rfl, fun i => rfl, fun i => by show (if b = a ∧ i = k then x else zw z b i) = _; simp [h], fun i => rfl⟩
theorem rg_up {v : xV} {a k b i : Nat} {x : Int} (hv : ∀ a k, rg (v a k)) (hx : rg x) : rg (up v a k x b i) := by
  unfold up
  split
  · exact hx
  · exact hv b i
theorem RelH.putI {ε : xE} {z : xZ} {v : xV} {H H' : Heap} (h : RelH ε z v H) {a t k : Nat} {x : Int} (ha : 16 ≤ a) (hz : zh z a = t) (ht : t < 11) (hx : rg x) (hsz : H'.size = H.size) (ho : ∀ q, q ≠ ra ε a → H'[q]? = H[q]?) (hk : kd t k = 0)
    (hc : t_OB (ra ε a) ((eD ε).1 t) (cN t) ((eD ε).2 t) H' (updV (sv ε z v a) k (.int (Int32.ofInt x)))) : RelH ε z (up v a k x) H' := by
  refine h.set ha rfl hsz ho (Or.inl ⟨by rw [hz]; exact ht, ?_⟩) (fun b hb => agr_up hb) rfl rfl (fun i => rg_up h.2.2.2.2.1 hx)
  rw [hz, sv_up (by rw [hz]; exact hk)]
  exact hc
theorem RelH.putR {ε : xE} {z : xZ} {v : xV} {H H' : Heap} (h : RelH ε z v H) {a t k b : Nat} (ha : 16 ≤ a) (hz : zh z a = t) (ht : t < 11) (hsz : H'.size = H.size) (ho : ∀ q, q ≠ ra ε a → H'[q]? = H[q]?) (hk : kd t k = 1)
    (hc : t_OB (ra ε a) ((eD ε).1 t) (cN t) ((eD ε).2 t) H' (updV (sv ε z v a) k (rf ε b))) : RelH ε (upR z a k b) v H' := by
  refine h.set ha rfl hsz ho (Or.inl ⟨by rw [show zh (upR z a k b) a = zh z a from rfl, hz]; exact ht, ?_⟩) (fun b hb => agr_upR hb) rfl rfl (fun i => h.2.2.2.2.1 a i)
  rw [show zh (upR z a k b) a = zh z a from rfl, sv_upR (by rw [hz]; exact hk), hz]
  exact hc
theorem RelH.putA {ε : xE} {z z' : xZ} {v v' : xV} {H H' : Heap} (h : RelH ε z v H) {a t k : Nat} {val : Value} (ha : 16 ≤ a) (hz : zh z a = t) (ht : aT t) (hn : zn z' = zn z) (hsz : H'.size = H.size) (ho : ∀ q, q ≠ ra ε a → H'[q]? = H[q]?) (hcell : H'[ra ε a]? = some ((arrV (eC ε t) (zl z a) (sv ε z v a)).setSlot k val))
    (hsv : sv ε z' v' a = updV (sv ε z v a) k val) (hh : zh z' a = zh z a) (hl : zl z' a = zl z a) (hag : ∀ b, b ≠ a → agr b z v z' v') (hr : ∀ k, rg (v' a k)) : RelH ε z' v' H' := by
  refine h.set ha hn hsz ho (Or.inr ⟨by rw [hh, hz]; exact ht, ?_⟩) hag hh hl hr
  rw [hcell, arrV_store, hh, hl, hz, hsv]
theorem RelH.push {ε : xE} {z : xZ} {v : xV} {H H' : Heap} (h : RelH ε z v H) {t n sl : Nat} (hsz : H'.size = H.size + 1) (ho : ∀ q, q < H.size → H'[q]? = H[q]?) (hn : n < 2147483648) (hc : cellOk ε (nwZ z t n sl) (nwV v z.1) H' z.1) : RelH ε (nwZ z t n sl) (nwV v z.1) H' := by
  obtain ⟨⟨h1, h2⟩, h3, h4, h5, h6, h7, h8⟩ := id h
  have ag : ∀ b, b ≠ z.1 → agr b z v (nwZ z t n sl) (nwV v z.1) := fun b hb => by
    refine ⟨?_, ?_, fun k => ?_, fun k => ?_, fun k => ?_⟩
    · show (if b = z.1 then t else _) = _
      rw [if_neg hb]; rfl
    · show (if b = z.1 then n else _) = _
      rw [if_neg hb]; rfl
    · show (if b = z.1 then 0 else _) = _
      rw [if_neg hb]; rfl
    · show (if b = z.1 then 0 else _) = _
      rw [if_neg hb]; rfl
    · show (if b = z.1 then 0 else _) = _
      rw [if_neg hb]
  have hzn : zn (nwZ z t n sl) = zn z + 1 := rfl
  have hz1 : z.1 = zn z := rfl
  refine h.step (by omega) (by omega) (fun q hq => ho q (by omega)) (fun b hb1 hb2 => ?_) (fun b hb => ag b (by omega)) (fun b k => ?_) (fun b => ?_) (fun b hb => ?_)
  · by_cases e : b = z.1
    · rw [e]; exact Or.inr hc
    · exact Or.inl ⟨by omega, ag b e, ho _ ((ra_lt h hb1).mpr (by omega))⟩
  · show rg (if b = z.1 then 0 else v b k)
    split
    · exact ⟨by decide, by decide⟩
    · exact h6 b k
  · show (if b = z.1 then n else _) < _
    split
    · exact hn
    · exact h7 b
  · rw [(ag b (by omega)).1]
    exact h8 b (by omega)
theorem ra_new {ε : xE} {z : xZ} {v : xV} {H : Heap} (h : RelH ε z v H) : ra ε z.1 = H.size := by
  have h1 := h.1.1
  have h2 := h.1.2
  have hz1 : z.1 = zn z := rfl
  unfold ra
  omega
section SH
variable {ε : xE} {p : Program} {l : Launch} {e : Env} {R : Room} {s : State} {m : MethodId} {args : Array Value} {below : List Frame} {meth : Method} {c : Code} {Tg : State → Prop} {j d : Nat} {z0 : xZ} {pc : Nat} {L S : List xv} {z : xZ} {v : xV}
theorem Cx.G (C : Cx ε p R s m args meth c j d) : ∀ w ∈ lwG, w.before args s = true := fun w h => C.2.2.1 w (List.mem_filter.mp h).1 (List.mem_filter.mp h).2
theorem Cx.K (C : Cx ε p R s m args meth c j d) : va_K (eD ε) clsL (tyL ε) s := C.2.2.2.1.2.1
theorem Cx.T (C : Cx ε p R s m args meth c j d) : Tab ε s := C.2.2.2.1
theorem fd_ok (C : Cx ε p R s m args meth c j d) {t k : Nat} (ht : t < 11) (hk : k < cN t) : ∃ cf kf fi f kC, s.fieldFound? (fT t k).1 (fT t k).2.1 (fT t k).2.2.1 = some (cf, kf, fi, f) ∧ f.slot = (eD ε).2 t k ∧ f.isStatic = false ∧ s.vm.findClass (on t) = some ((eD ε).1 t) ∧ s.vm.classes[(eD ε).1 t]? = some kC ∧ kC.kind = .ordinary := by
  obtain ⟨hS, hfc, kC, hkC, hkind⟩ := C.K.1 t _ (cls_t t ht)
  obtain ⟨cf, kf, fi, f, hi, hsl⟩ := hS k hk
  exact ⟨cf, kf, fi, f, kC, hi, hsl, (u_facts hfc hkC (u_lays C.G (lay_G t ht) hk) hi).1, hfc, hkC, hkind⟩
theorem sn_getI (C : Cx ε p R s m args meth c j d) {i t k : Nat} (hF : look tF (ow j) i = some (t, k)) (hri : isRefT (fy t k) = false) (hd : decode (bc j) pc = .ok (.getfield i, 3)) (K : Nx ε p l e R s m args below meth c Tg j z0 (pc + 3) (act (.getfield (128 * t + k)) L S z v)) : Wx ε p l e R s m args below meth c Tg j z0 pc L S z v := by
  obtain ⟨hw, hcase, h128⟩ := fl_ok hF
  have e1 : (128 * t + k) / 128 = t := by omega
  have e2 : (128 * t + k) % 128 = k := by omega
  unfold act at K
  dsimp only at K
  rw [e1, e2] at K
  split at K
  · rename_i a r
    split at K
    · rename_i hz
      intro H locs ls hR hL hl gL gS
      have K1 := K.2 H locs ls hR hL hl gL (RG.cons (hR.2.2.2.2.1 a k) gS.tl)
      show W p l e R s m args below meth c H locs _ _ Tg (F0 m pc ls (rf ε a :: r.map (cv ε)))
      rcases hcase with ⟨ht, hk⟩ | ⟨rfl, hk⟩
      · obtain ⟨ha, hb, cell, q1, q2, q3, q4⟩ := obj_at C.T hR hz ht
        obtain ⟨cf, kf, fi, f, kC, f1, f2, f3, f4, f5, f6⟩ := fd_ok C ht hk
        rw [rf_hi ha]
        exact W.getf C.1.1 C.1.2.1 C.2.1 (C.2.2.1 _ hw rfl) f1 f3 q1 (by rw [q3]; exact fun h => by cases h) (v := .int (Int32.ofInt (v a k))) (by rw [f2, q4 k hk, sv_i (by rw [hz]; exact kd_i (by omega) hri)]) rfl rfl hd K1
      · have ha := old_at C.T hR hz (Or.inl rfl)
        have hag := hR.2.2.2.1 a ha
        obtain ⟨r1, hr1, hO, hco, hva⟩ := (C.T.2.2.2.2.2.1 a ha).2.2 (hag.1.symm.trans hz)
        have hk1 : k = 1 := by
          rcases (show k = 0 ∨ k = 1 by omega) with q | q
          · rw [q] at hri
            exact absurd hri (by decide)
          · exact q
        subst hk1
        obtain ⟨cf, k', fi, f, cell, h1, h2, h3, h4, h5, h6⟩ := hco.kept (hR.kept C.T)
        rw [show v a 1 = eV ε a 1 from hag.2.2.2.2 1] at K1
        rw [hr1]
        exact W.getf C.1.1 C.1.2.1 C.2.1 (C.2.2.1 _ hw rfl) h1 h2 h3 h4 (v := .int (Int32.ofInt (eV ε a 1))) h5 rfl rfl hd K1
    · exact K.elim
  · exact K.elim
theorem sn_getR (C : Cx ε p R s m args meth c j d) {i t k : Nat} (hF : look tF (ow j) i = some (t, k)) (hri : isRefT (fy t k) = true) (hd : decode (bc j) pc = .ok (.getfield i, 3)) (K : Nx ε p l e R s m args below meth c Tg j z0 (pc + 3) (act (.instanceof (128 * t + k)) L S z v)) : Wx ε p l e R s m args below meth c Tg j z0 pc L S z v := by
  obtain ⟨hw, hcase, h128⟩ := fl_ok hF
  have e1 : (128 * t + k) / 128 = t := by omega
  have e2 : (128 * t + k) % 128 = k := by omega
  unfold act at K
  dsimp only at K
  rw [e1, e2] at K
  split at K
  · rename_i a r
    split at K
    · rename_i hz
      intro H locs ls hR hL hl gL gS
      have K1 := K.2 H locs ls hR hL hl gL (RG.consR gS.tl)
      show W p l e R s m args below meth c H locs _ _ Tg (F0 m pc ls (rf ε a :: r.map (cv ε)))
      rcases hcase with ⟨ht, hk⟩ | ⟨rfl, hk⟩
      · obtain ⟨ha, hb, cell, q1, q2, q3, q4⟩ := obj_at C.T hR hz ht
        obtain ⟨cf, kf, fi, f, kC, f1, f2, f3, f4, f5, f6⟩ := fd_ok C ht hk
        rw [rf_hi ha]
        exact W.getf C.1.1 C.1.2.1 C.2.1 (C.2.2.1 _ hw rfl) f1 f3 q1 (by rw [q3]; exact fun h => by cases h) (v := rf ε (zr z a k)) (by rw [f2, q4 k hk, sv_r (by rw [hz]; exact kd_r (by omega) hri)]) rfl rfl hd K1
      · have ha := old_at C.T hR hz (Or.inl rfl)
        have hag := hR.2.2.2.1 a ha
        obtain ⟨r1, hr1, hO, hco, hva⟩ := (C.T.2.2.2.2.2.1 a ha).2.2 (hag.1.symm.trans hz)
        have hk1 : k = 0 := by
          rcases (show k = 0 ∨ k = 1 by omega) with q | q
          · exact q
          · rw [q] at hri
            exact absurd hri (by decide)
        subst hk1
        obtain ⟨cf, k', fi, f, cell, h1, h2, h3, h4, h5, h6⟩ := hva.kept (hR.kept C.T)
        rw [show zr z a 0 = zr (eZ ε) a 0 from hag.2.2.1 0] at K1
        rw [hr1]
        exact W.getf C.1.1 C.1.2.1 C.2.1 (C.2.2.1 _ hw rfl) h1 h2 h3 h4 (v := rf ε (zr (eZ ε) a 0)) h5 rfl rfl hd K1
    · exact K.elim
  · exact K.elim
/-- a field is written -/
theorem w_put (C : Cx ε p R s m args meth c j d) {i t k : Nat} (hF : look tF (ow j) i = some (t, k)) (ht : t < 11) (hfin : (fT t k).2.2.2 = true → (yn j).name = "<init>" ∧ t = ow j) (hd : decode (bc j) pc = .ok (.putfield i, 3)) {val : Value} (hn : narrow (fy t k) val = val) (hfit : fits (fy t k) val = true)
    {H : Heap} {locs : List Loc} {ls : Array Slot} {rest : List Value} {cs sl a : Nat} (hR : RelH ε z v H) (hL : ∀ q ∈ locs, eB ε ≤ q.base) (hz : zh z a = t)
    (kk : ∀ (H' : Heap) (locs' : List Loc), t_OB (ra ε a) ((eD ε).1 t) (cN t) ((eD ε).2 t) H' (updV (sv ε z v a) k val) → H'.size = H.size → (∀ q, q ≠ ra ε a → H'[q]? = H[q]?) → (∀ q ∈ locs', eB ε ≤ q.base) → W p l e R s m args below meth c H' locs' cs sl Tg (F0 m (pc + 3) ls rest)) :
    W p l e R s m args below meth c H locs cs sl Tg (F0 m pc ls (val :: rf ε a :: rest)) := by
  obtain ⟨hw, hcase, h128⟩ := fl_ok hF
  have hk : k < cN t := by
    rcases hcase with h | h
    · exact h.2
    · omega
  obtain ⟨ha, hb, cell, q1, q2, q3, q4⟩ := obj_at C.T hR hz ht
  obtain ⟨cf, kf, fi, f, kC, f1, f2, f3, f4, f5, f6⟩ := fd_ok C ht hk
  have hap := va_apart (own := on (ow j)) C.G (lay_G t ht) (fy t) (typ_t t ht) (nam_t t ht) C.K (cls_t t ht)
  rw [rf_hi ha]
  have hlay := C.G _ (lay_G t ht _ (u_in_lay hk))
  unfold u_lay at hlay
  have hl2 : ∀ q ∈ locs ++ [(⟨ra ε a, f.slot⟩ : Loc)], eB ε ≤ q.base := fun q hq => by
    rcases List.mem_append.mp hq with h | h
    · exact hL q h
    · rw [List.mem_singleton.mp h]
      show eB ε ≤ ra ε a
      unfold ra
      omega
  by_cases hff : (fT t k).2.2.2 = true
  · rw [if_pos hff] at hlay
    obtain ⟨hini, rfl⟩ := hfin hff
    have hcf : m.cls = cf := by
      obtain ⟨_, _, c', _, _, _, -, -, hf', -, -, -, hown2, -⟩ := Cond.laysFinal_spec hlay
      have e1 : c' = cf := by have := f1.symm.trans hf'; simp at this; exact this.1.symm
      rw [dcl_t _ ht k hk] at hown2
      rw [← e1]; exact Option.some.inj (C.2.1.symm.trans hown2)
    have h6 := u_fits f4 f5 f6 (Or.inr hlay) f1 (typ_t _ ht k hk) hn hfit
    refine W.putFinK C.1.1 C.1.2.1 C.2.1 (C.2.2.1 _ hw rfl) f1 f3 hcf (C.2.2.2.2.1 hini) (by rw [q2]; exact h6) q1 q3 (by rw [f2]; exact k2_hasslot (q4 k hk)) rfl rfl hd fun H' e1 e2 e3 => ?_
    refine kk H' _ ⟨_, e1, q2, q3, ?_⟩ e2 e3 hl2
    rw [f2]
    exact t_set q4 hap hk val
  · rw [if_neg hff] at hlay
    have h6 := u_store f4 f5 f6 hlay f1 (typ_t _ ht k hk) hn hfit
    refine W.putK C.1.1 C.1.2.1 (f := f) ⟨C.2.1, C.2.2.1 _ hw rfl, ⟨_, _, _, f1⟩, f3⟩ (by rw [q2]; exact h6) q1 q3 (by rw [f2]; exact k2_hasslot (q4 k hk)) rfl rfl hd fun H' e1 e2 e3 => ?_
    refine kk H' _ ⟨_, e1, q2, q3, ?_⟩ e2 e3 hl2
    rw [f2]
    exact t_set q4 hap hk val
theorem sn_putI (C : Cx ε p R s m args meth c j d) {i t k : Nat} (hF : look tF (ow j) i = some (t, k)) (ht : t < 11) (hfin : (fT t k).2.2.2 = true → (yn j).name = "<init>" ∧ t = ow j) (hy : fy t k = .int) (hd : decode (bc j) pc = .ok (.putfield i, 3)) (K : Nx ε p l e R s m args below meth c Tg j z0 (pc + 3) (act (.putfield (128 * t + k)) L S z v)) : Wx ε p l e R s m args below meth c Tg j z0 pc L S z v := by
  have h128 := (fl_ok hF).2.2
  have e1 : (128 * t + k) / 128 = t := by omega
  have e2 : (128 * t + k) % 128 = k := by omega
  unfold act at K
  dsimp only at K
  rw [e1, e2] at K
  split at K
  · rename_i x a r
    split at K
    · rename_i hz
      intro H locs ls hR hL hl gL gS
      have ha := (obj_at C.T hR hz ht).1
      exact w_put C hF ht hfin hd (by rw [hy]; rfl) (by rw [hy]; rfl) hR hL hz fun H' locs' h1 h2 h3 h4 => K.2 H' locs' ls (hR.putI ha hz ht gS.hd h2 h3 (kd_i (by omega) (by rw [hy]; rfl)) h1) h4 hl gL gS.tl.tl
    · exact K.elim
  · exact K.elim
theorem sn_putZ (C : Cx ε p R s m args meth c j d) {i t k : Nat} (hF : look tF (ow j) i = some (t, k)) (ht : t < 11) (hfin : (fT t k).2.2.2 = true → (yn j).name = "<init>" ∧ t = ow j) (hy : fy t k = .boolean) (hd : decode (bc j) pc = .ok (.putfield i, 3)) (K : Nx ε p l e R s m args below meth c Tg j z0 (pc + 3) (act (.putstatic (128 * t + k)) L S z v)) : Wx ε p l e R s m args below meth c Tg j z0 pc L S z v := by
  have h128 := (fl_ok hF).2.2
  have e1 : (128 * t + k) / 128 = t := by omega
  have e2 : (128 * t + k) % 128 = k := by omega
  unfold act at K
  dsimp only at K
  rw [e1, e2] at K
  split at K
  · rename_i x a r
    split at K
    · rename_i hz
      obtain ⟨hz, hx⟩ := hz
      intro H locs ls hR hL hl gL gS
      have ha := (obj_at C.T hR hz ht).1
      refine w_put C hF ht hfin hd (val := .int (Int32.ofInt x)) ?_ ?_ hR hL hz fun H' locs' h1 h2 h3 h4 => K.2 H' locs' ls (hR.putI ha hz ht gS.hd h2 h3 (kd_i (by omega) (by rw [hy]; rfl)) h1) h4 hl gL gS.tl.tl
      · rw [hy]
        rcases hx with rfl | rfl <;> rfl
      · rw [hy]
        rcases hx with rfl | rfl <;> rfl
    · exact K.elim
  · exact K.elim
theorem sn_putR (C : Cx ε p R s m args meth c j d) {i t k : Nat} (hF : look tF (ow j) i = some (t, k)) (ht : t < 11) (hfin : (fT t k).2.2.2 = true → (yn j).name = "<init>" ∧ t = ow j) (hy : isRefT (fy t k) = true) (hd : decode (bc j) pc = .ok (.putfield i, 3)) (K : Nx ε p l e R s m args below meth c Tg j z0 (pc + 3) (act (.checkcast (128 * t + k)) L S z v)) : Wx ε p l e R s m args below meth c Tg j z0 pc L S z v := by
  have h128 := (fl_ok hF).2.2
  have e1 : (128 * t + k) / 128 = t := by omega
  have e2 : (128 * t + k) % 128 = k := by omega
  unfold act at K
  dsimp only at K
  rw [e1, e2] at K
  split at K
  · rename_i b a r
    split at K
    · rename_i hz
      intro H locs ls hR hL hl gL gS
      have ha := (obj_at C.T hR hz ht).1
      refine w_put C hF ht hfin hd (val := rf ε b) ?_ ?_ hR hL hz fun H' locs' h1 h2 h3 h4 => K.2 H' locs' ls (hR.putR ha hz ht h2 h3 (kd_r (by omega) hy) h1) h4 hl gL gS.tl.tl
      · rcases rf_or ε b with q | ⟨u, q⟩ <;> rw [q] <;> (cases hf : fy t k <;> rw [hf] at hy <;> first | rfl | cases hy)
      · rcases rf_or ε b with q | ⟨u, q⟩ <;> rw [q] <;> (cases hf : fy t k <;> rw [hf] at hy <;> first | rfl | cases hy)
    · exact K.elim
  · exact K.elim
theorem sn_caload (C : Cx ε p R s m args meth c j d) (hd : decode (bc j) pc = .ok (.caload, 1)) (K : Nx ε p l e R s m args below meth c Tg j z0 (pc + 1) (act (.caload) L S z v)) : Wx ε p l e R s m args below meth c Tg j z0 pc L S z v := by
  unfold act at K
  dsimp only at K
  split at K
  · rename_i i a r
    split at K
    · rename_i hz
      obtain ⟨hz, h0, h1⟩ := hz
      intro H locs ls hR hL hl gL gS
      have K1 := K.2 H locs ls hR hL hl gL (RG.cons (hR.2.2.2.2.1 a i.toNat) gS.tl.tl)
      obtain ⟨ha, hb, hc⟩ := arr_at C.T hR hz (by unfold aT; omega)
      show W p l e R s m args below meth c H locs _ _ Tg (F0 m pc ls (.int (Int32.ofInt i) :: rf ε a :: r.map (cv ε)))
      rw [rf_hi ha]
      exact W.cald C.1.1 C.1.2.1 hc ((C.K.2 1 _ rfl).1 _ _) (fun q => by cases q) (by rw [arrV_size]; exact vp_of gS.hd h0 h1) (v := .int (Int32.ofInt (v a i.toNat))) (by rw [ofI_nat gS.hd, arrV_read _ _ (by omega), sv_i (by rw [hz]; rfl)]) rfl rfl hd K1
    · exact K.elim
  · exact K.elim
theorem sn_laload (C : Cx ε p R s m args meth c j d) (hd : decode (bc j) pc = .ok (.laload, 1)) (K : Nx ε p l e R s m args below meth c Tg j z0 (pc + 1) (act (.laload) L S z v)) : Wx ε p l e R s m args below meth c Tg j z0 pc L S z v := by
  unfold act at K
  dsimp only at K
  split at K
  · rename_i i a r
    split at K
    · rename_i hz
      obtain ⟨hz, h0, h1⟩ := hz
      intro H locs ls hR hL hl gL gS
      have K1 := K.2 H locs ls hR hL hl gL (RG.consR gS.tl.tl)
      obtain ⟨ha, hb, hc⟩ := arr_at C.T hR hz (by unfold aT; omega)
      show W p l e R s m args below meth c H locs _ _ Tg (F0 m pc ls (.int (Int32.ofInt i) :: rf ε a :: r.map (cv ε)))
      rw [rf_hi ha]
      exact W.lald C.1.1 C.1.2.1 hc ((C.K.2 2 _ rfl).1 _ _) (fun q => by cases q) (by rw [arrV_size]; exact vp_of gS.hd h0 h1) (v := .long (zw z a i.toNat)) (by rw [ofI_nat gS.hd, arrV_read _ _ (by omega), sv_l (by rw [hz]; rfl)]) rfl rfl hd K1
    · exact K.elim
  · exact K.elim
theorem sn_aaload (C : Cx ε p R s m args meth c j d) (hd : decode (bc j) pc = .ok (.aaload, 1)) (K : Nx ε p l e R s m args below meth c Tg j z0 (pc + 1) (act (.aaload) L S z v)) : Wx ε p l e R s m args below meth c Tg j z0 pc L S z v := by
  unfold act at K
  dsimp only at K
  split at K
  · rename_i i a r
    split at K
    · rename_i hz
      obtain ⟨hz, h0, h1⟩ := hz
      intro H locs ls hR hL hl gL gS
      have K1 := K.2 H locs ls hR hL hl gL (RG.consR gS.tl.tl)
      show W p l e R s m args below meth c H locs _ _ Tg (F0 m pc ls (.int (Int32.ofInt i) :: rf ε a :: r.map (cv ε)))
      rcases hz with hz | hz
      · obtain ⟨ha, hb, hc⟩ := arr_at C.T hR hz (by unfold aT; omega)
        rw [rf_hi ha]
        exact W.aald C.1.1 C.1.2.1 hc ((C.K.2 3 _ rfl).1 _ _) rfl (fun q => by cases q) (by rw [arrV_size]; exact vp_of gS.hd h0 h1) (v := rf ε (zr z a i.toNat)) (by rw [ofI_nat gS.hd, arrV_read _ _ (by omega), sv_r (by rw [hz]; rfl)]) rfl rfl hd K1
      · obtain ⟨ha, hb, hc⟩ := arr_at C.T hR hz (by unfold aT; omega)
        rw [rf_hi ha]
        exact W.aald C.1.1 C.1.2.1 hc ((C.K.2 4 _ rfl).1 _ _) rfl (fun q => by cases q) (by rw [arrV_size]; exact vp_of gS.hd h0 h1) (v := rf ε (zr z a i.toNat)) (by rw [ofI_nat gS.hd, arrV_read _ _ (by omega), sv_r (by rw [hz]; rfl)]) rfl rfl hd K1
    · exact K.elim
  · exact K.elim
theorem sn_iaload (C : Cx ε p R s m args meth c j d) (hd : decode (bc j) pc = .ok (.iaload, 1)) (K : Nx ε p l e R s m args below meth c Tg j z0 (pc + 1) (act (.iaload) L S z v)) : Wx ε p l e R s m args below meth c Tg j z0 pc L S z v := by
  unfold act at K
  dsimp only at K
  split at K
  · rename_i i a r
    split at K
    · rename_i hz
      obtain ⟨hz, h0, h1⟩ := hz
      intro H locs ls hR hL hl gL gS
      have K1 := K.2 H locs ls hR hL hl gL (RG.cons (hR.2.2.2.2.1 a i.toNat) gS.tl.tl)
      show W p l e R s m args below meth c H locs _ _ Tg (F0 m pc ls (.int (Int32.ofInt i) :: rf ε a :: r.map (cv ε)))
      rcases hz with hz | hz
      · obtain ⟨ha, hb, hc⟩ := arr_at C.T hR hz (by unfold aT; omega)
        rw [rf_hi ha]
        exact W.iald C.1.1 C.1.2.1 hc ((C.K.2 0 _ rfl).1 _ _) (fun q => by cases q) (by rw [arrV_size]; exact vp_of gS.hd h0 h1) (v := .int (Int32.ofInt (v a i.toNat))) (by rw [ofI_nat gS.hd, arrV_read _ _ (by omega), sv_i (by rw [hz]; rfl)]) rfl rfl hd K1
      · have ha := old_at C.T hR hz (by omega)
        have hag := hR.2.2.2.1 a ha
        obtain ⟨t, ht, hT⟩ := (C.T.2.2.2.2.2.1 a ha).1 (hag.1.symm.trans hz)
        obtain ⟨cell, c1, c2, c3, c4, c5, c6, c7⟩ := hT.kept (hR.kept C.T)
        rw [ht]
        rw [show zl z a = zl (eZ ε) a from hag.2.1] at h1
        rw [show v a i.toNat = eV ε a i.toNat from hag.2.2.2.2 _] at K1
        refine W.iald C.1.1 C.1.2.1 c1 c2 c3 ?_ (v := .int (Int32.ofInt (eV ε a i.toNat))) (by rw [ofI_nat gS.hd, c6 _ (by omega)]) rfl rfl hd K1
        intro q
        rcases q with q | q
        · exact vp_of gS.hd h0 h1 (Or.inl q)
        · rw [ofI_nat gS.hd] at q
          omega
    · exact K.elim
  · exact K.elim
theorem sn_baload (C : Cx ε p R s m args meth c j d) (hd : decode (bc j) pc = .ok (.baload, 1)) (K : Nx ε p l e R s m args below meth c Tg j z0 (pc + 1) (act (.baload) L S z v)) : Wx ε p l e R s m args below meth c Tg j z0 pc L S z v := by
  unfold act at K
  dsimp only at K
  split at K
  · rename_i i a r
    split at K
    · rename_i hz
      obtain ⟨hz, h0, h1⟩ := hz
      intro H locs ls hR hL hl gL gS
      have K1 := K.2 H locs ls hR hL hl gL (RG.cons (hR.2.2.2.2.1 a i.toNat) gS.tl.tl)
      show W p l e R s m args below meth c H locs _ _ Tg (F0 m pc ls (.int (Int32.ofInt i) :: rf ε a :: r.map (cv ε)))
      have ha := old_at C.T hR hz (by omega)
      have hag := hR.2.2.2.1 a ha
      obtain ⟨t, ht, hT⟩ := (C.T.2.2.2.2.2.1 a ha).2.1 (hag.1.symm.trans hz)
      obtain ⟨cell, c1, c2, c3, c4, c5, c6, c7⟩ := hT.kept (hR.kept C.T)
      rw [ht]
      rw [show zl z a = zl (eZ ε) a from hag.2.1] at h1
      rw [show v a i.toNat = eV ε a i.toNat from hag.2.2.2.2 _] at K1
      refine W.bald C.1.1 C.1.2.1 c1 c2 c3 ?_ (v := .int (Int32.ofInt (eV ε a i.toNat))) (by rw [ofI_nat gS.hd, c6 _ (by omega)]) rfl rfl hd K1
      intro q
      rcases q with q | q
      · exact vp_of gS.hd h0 h1 (Or.inl q)
      · rw [ofI_nat gS.hd] at q
        omega
    · exact K.elim
  · exact K.elim
theorem sn_arraylength (C : Cx ε p R s m args meth c j d) (hd : decode (bc j) pc = .ok (.arraylength, 1)) (K : Nx ε p l e R s m args below meth c Tg j z0 (pc + 1) (act (.arraylength) L S z v)) : Wx ε p l e R s m args below meth c Tg j z0 pc L S z v := by
  unfold act at K
  dsimp only at K
  split at K
  · rename_i a r
    split at K
    · rename_i hz
      intro H locs ls hR hL hl gL gS
      have K1 := K.2 H locs ls hR hL hl gL (RG.cons (rg_nat (hR.2.2.2.2.2.1 a)) gS.tl)
      show W p l e R s m args below meth c H locs _ _ Tg (F0 m pc ls (rf ε a :: r.map (cv ε)))
      by_cases ha : a < 16
      · have hag := hR.2.2.2.1 a ha
        have h3 := C.T.1.1 a ha
        rw [← hag.1] at h3
        rcases (show zh z a = 110 ∨ zh z a = 111 by omega) with h4 | h4
        · obtain ⟨t, ht, hT⟩ := (C.T.2.2.2.2.2.1 a ha).1 (hag.1.symm.trans h4)
          obtain ⟨cell, c1, c2, c3, c4, c5, c6, c7⟩ := hT.kept (hR.kept C.T)
          rw [ht]
          exact W.alen C.1.1 C.1.2.1 c1 c2 (by rw [c5, ofI_ofNat, hag.2.1]) rfl rfl hd K1
        · obtain ⟨t, ht, hT⟩ := (C.T.2.2.2.2.2.1 a ha).2.1 (hag.1.symm.trans h4)
          obtain ⟨cell, c1, c2, c3, c4, c5, c6, c7⟩ := hT.kept (hR.kept C.T)
          rw [ht]
          exact W.alen C.1.1 C.1.2.1 c1 c2 (by rw [c5, ofI_ofNat, hag.2.1]) rfl rfl hd K1
      · have ha : 16 ≤ a := by omega
        have hb : a < zn z := by
          rcases Nat.lt_or_ge a (zn z) with q | q
          · exact q
          · have := hR.2.2.2.2.2.2 a q
            omega
        rw [rf_hi ha]
        rcases hR.2.2.1 a ha hb with ⟨q1, -⟩ | ⟨q1, hc⟩
        · omega
        · have e1 : ∀ (t : Nat) (f : Nat → Value), (arrV (eC ε t) (zl z a) f).slots.size.toInt32 = Int32.ofInt (zl z a) := fun t f => by rw [arrV_size]; exact ofI_ofNat _
          rcases q1 with q | q | q | q | q <;> rw [q] at hc
          · exact W.alen C.1.1 C.1.2.1 hc ((C.K.2 0 _ rfl).1 _ _) (e1 _ _) rfl rfl hd K1
          · exact W.alen C.1.1 C.1.2.1 hc ((C.K.2 1 _ rfl).1 _ _) (e1 _ _) rfl rfl hd K1
          · exact W.alen C.1.1 C.1.2.1 hc ((C.K.2 2 _ rfl).1 _ _) (e1 _ _) rfl rfl hd K1
          · exact W.alen C.1.1 C.1.2.1 hc ((C.K.2 3 _ rfl).1 _ _) (e1 _ _) rfl rfl hd K1
          · exact W.alen C.1.1 C.1.2.1 hc ((C.K.2 4 _ rfl).1 _ _) (e1 _ _) rfl rfl hd K1
    · exact K.elim
  · exact K.elim
theorem sn_iastore (C : Cx ε p R s m args meth c j d) (hd : decode (bc j) pc = .ok (.iastore, 1)) (K : Nx ε p l e R s m args below meth c Tg j z0 (pc + 1) (act (.iastore) L S z v)) : Wx ε p l e R s m args below meth c Tg j z0 pc L S z v := by
  unfold act at K
  dsimp only at K
  split at K
  · rename_i x i a r
    split at K
    · rename_i hz
      obtain ⟨hz, h0, h1⟩ := hz
      intro H locs ls hR hL hl gL gS
      obtain ⟨ha, hb, hc⟩ := arr_at C.T hR hz (by unfold aT; omega)
      show W p l e R s m args below meth c H locs _ _ Tg (F0 m pc ls (.int (Int32.ofInt x) :: .int (Int32.ofInt i) :: rf ε a :: r.map (cv ε)))
      rw [rf_hi ha]
      have hl2 : ∀ q ∈ locs ++ [(⟨ra ε a, (Int32.ofInt i).toNatClampNeg⟩ : Loc)], eB ε ≤ q.base := fun q hq => by
        rcases List.mem_append.mp hq with h | h
        · exact hL q h
        · rw [List.mem_singleton.mp h]
          show eB ε ≤ ra ε a
          unfold ra
          omega
      refine W.iast C.1.1 C.1.2.1 hc ((C.K.2 0 _ rfl).1 _ _) (fun q => by cases q) (by rw [arrV_size]; exact vp_of gS.tl.hd h0 h1) rfl rfl hd fun H' e1 e2 e3 => ?_
      rw [ofI_nat gS.tl.hd] at e1
      exact K.2 H' _ ls (hR.putA (k := i.toNat) (val := .int (Int32.ofInt x)) (z' := z) (v' := up v a i.toNat x) ha hz (by unfold aT; omega) rfl e2 e3 e1 (sv_up (by rw [hz]; rfl)) rfl rfl (fun b hb => agr_up hb) (fun k => rg_up hR.2.2.2.2.1 gS.hd)) hl2 hl gL gS.tl.tl.tl
    · exact K.elim
  · exact K.elim
theorem sn_castore (C : Cx ε p R s m args meth c j d) (hd : decode (bc j) pc = .ok (.castore, 1)) (K : Nx ε p l e R s m args below meth c Tg j z0 (pc + 1) (act (.castore) L S z v)) : Wx ε p l e R s m args below meth c Tg j z0 pc L S z v := by
  unfold act at K
  dsimp only at K
  split at K
  · rename_i x i a r
    split at K
    · rename_i hz
      obtain ⟨hz, h0, h1⟩ := hz
      intro H locs ls hR hL hl gL gS
      obtain ⟨ha, hb, hc⟩ := arr_at C.T hR hz (by unfold aT; omega)
      show W p l e R s m args below meth c H locs _ _ Tg (F0 m pc ls (.int (Int32.ofInt x) :: .int (Int32.ofInt i) :: rf ε a :: r.map (cv ε)))
      rw [rf_hi ha]
      have hl2 : ∀ q ∈ locs ++ [(⟨ra ε a, (Int32.ofInt i).toNatClampNeg⟩ : Loc)], eB ε ≤ q.base := fun q hq => by
        rcases List.mem_append.mp hq with h | h
        · exact hL q h
        · rw [List.mem_singleton.mp h]
          show eB ε ≤ ra ε a
          unfold ra
          omega
      refine W.cast C.1.1 C.1.2.1 hc ((C.K.2 1 _ rfl).1 _ _) (fun q => by cases q) (by rw [arrV_size]; exact vp_of gS.tl.hd h0 h1) rfl rfl hd fun H' e1 e2 e3 => ?_
      rw [ofI_nat gS.tl.hd] at e1
      rw [nar_char] at e1
      exact K.2 H' _ ls (hR.putA (k := i.toNat) (val := .int (Int32.ofInt (x % 65536))) (z' := z) (v' := up v a i.toNat (x % 65536)) ha hz (by unfold aT; omega) rfl e2 e3 e1 (sv_up (by rw [hz]; rfl)) rfl rfl (fun b hb => agr_up hb) (fun k => rg_up hR.2.2.2.2.1 (rg_i2c x))) hl2 hl gL gS.tl.tl.tl
    · exact K.elim
  · exact K.elim
theorem sn_lastore (C : Cx ε p R s m args meth c j d) (hd : decode (bc j) pc = .ok (.lastore, 1)) (K : Nx ε p l e R s m args below meth c Tg j z0 (pc + 1) (act (.lastore) L S z v)) : Wx ε p l e R s m args below meth c Tg j z0 pc L S z v := by
  unfold act at K
  dsimp only at K
  split at K
  · rename_i x i a r
    split at K
    · rename_i hz
      obtain ⟨hz, h0, h1⟩ := hz
      intro H locs ls hR hL hl gL gS
      obtain ⟨ha, hb, hc⟩ := arr_at C.T hR hz (by unfold aT; omega)
      show W p l e R s m args below meth c H locs _ _ Tg (F0 m pc ls (.long x :: .int (Int32.ofInt i) :: rf ε a :: r.map (cv ε)))
      rw [rf_hi ha]
      have hl2 : ∀ q ∈ locs ++ [(⟨ra ε a, (Int32.ofInt i).toNatClampNeg⟩ : Loc)], eB ε ≤ q.base := fun q hq => by
        rcases List.mem_append.mp hq with h | h
        · exact hL q h
        · rw [List.mem_singleton.mp h]
          show eB ε ≤ ra ε a
          unfold ra
          omega
      refine W.last C.1.1 C.1.2.1 hc ((C.K.2 2 _ rfl).1 _ _) (fun q => by cases q) (by rw [arrV_size]; exact vp_of gS.tl.hd h0 h1) rfl rfl hd fun H' e1 e2 e3 => ?_
      rw [ofI_nat gS.tl.hd] at e1
      exact K.2 H' _ ls (hR.putA (k := i.toNat) (val := .long x) (z' := upW z a i.toNat x) (v' := v) ha hz (by unfold aT; omega) rfl e2 e3 e1 (sv_upW (by rw [hz]; rfl)) rfl rfl (fun b hb => agr_upW hb) (fun k => hR.2.2.2.2.1 a k)) hl2 hl gL gS.tl.tl.tl
    · exact K.elim
  · exact K.elim
theorem sn_aastore (C : Cx ε p R s m args meth c j d) (hd : decode (bc j) pc = .ok (.aastore, 1)) (K : Nx ε p l e R s m args below meth c Tg j z0 (pc + 1) (act (.aastore) L S z v)) : Wx ε p l e R s m args below meth c Tg j z0 pc L S z v := by
  unfold act at K
  dsimp only at K
  split at K
  · rename_i b i a r
    split at K
    · rename_i hz
      obtain ⟨hz, hzb, h0, h1⟩ := hz
      intro H locs ls hR hL hl gL gS
      obtain ⟨ha, hb, hc⟩ := arr_at C.T hR hz (by unfold aT; omega)
      obtain ⟨ha2, hb2, cellV, g1, g2, g3, -⟩ := obj_at C.T hR hzb (by omega)
      show W p l e R s m args below meth c H locs _ _ Tg (F0 m pc ls (rf ε b :: .int (Int32.ofInt i) :: rf ε a :: r.map (cv ε)))
      rw [rf_hi ha, rf_hi ha2]
      have hl2 : ∀ q ∈ locs ++ [(⟨ra ε a, (Int32.ofInt i).toNatClampNeg⟩ : Loc)], eB ε ≤ q.base := fun q hq => by
        rcases List.mem_append.mp hq with h | h
        · exact hL q h
        · rw [List.mem_singleton.mp h]
          show eB ε ≤ ra ε a
          unfold ra
          omega
      have hcls := (C.K.1 6 _ rfl).2
      obtain ⟨kA, comp, k1, k2, k3, -⟩ := (C.K.2 3 _ rfl).2
      have hcomp : comp = (eD ε).1 6 := Option.some.inj (k3.symm.trans hcls.1)
      subst hcomp
      obtain ⟨kC, hkC, -⟩ := hcls.2
      have hi0 : ¬ Int32.ofInt i < 0 := fun q => vp_of gS.tl.hd h0 h1 (Or.inl q)
      refine W.aast C.1.1 C.1.2.1 hc (fun q h => by cases h) (fun h => by cases h) k1 k2 rfl hkC ⟨hi0, by rw [arrV_size, ofI_nat gS.tl.hd]; omega⟩ g1 (fun q h => by rw [g3] at h; cases h) (by rw [g2]; exact hkC) (by rw [g2]; exact va_assign hcls) rfl rfl hd fun H' e1 e2 e3 => ?_
      rw [ofI_nat gS.tl.hd] at e1
      exact K.2 H' _ ls (hR.putA (k := i.toNat) (val := .ref (ra ε b)) (z' := upR z a i.toNat b) (v' := v) ha hz (by unfold aT; omega) rfl e2 e3 e1 (by rw [← rf_hi ha2]; exact sv_upR (by rw [hz]; rfl)) rfl rfl (fun b hb => agr_upR hb) (fun k => hR.2.2.2.2.1 a k)) hl2 hl gL gS.tl.tl.tl
    · exact K.elim
  · exact K.elim
theorem sn_new (C : Cx ε p R s m args meth c j d) {i t : Nat} (hF : look tC (ow j) i = some t) (ht : t < 11) (h0 : zn z0 ≤ zn z ∧ zs z0 ≤ zs z) (hd : decode (bc j) pc = .ok (.new i, 3)) (K : Nx ε p l e R s m args below meth c Tg j z0 (pc + 3) (act (.new (128 * t + cN t)) L S z v)) : Wx ε p l e R s m args below meth c Tg j z0 pc L S z v := by
  have hN := cN_lt t ht
  have e1 : (128 * t + cN t) / 128 = t := by omega
  have e2 : (128 * t + cN t) % 128 = cN t := by omega
  unfold act at K
  dsimp only at K
  rw [e1, e2] at K
  obtain ⟨⟨r1, r2⟩, K⟩ := K
  intro H locs ls hR hL hl gL gS
  have hw := tCp_ok _ (look_mem hF)
  obtain ⟨q, -, -, -, hq⟩ := hw
  have hw := wd_mem hq
  rw [if_neg (by show ¬ t = 105; omega)] at hw
  obtain ⟨i1, i2⟩ := tIp_ok t ht
  have hKn := C.K.1 t _ (cls_t t ht)
  have z1 : zn (nwZ z t 0 (cN t)) = zn z + 1 := rfl
  have z2 : zs (nwZ z t 0 (cN t)) = zs z + cN t := rfl
  rw [z1] at r1
  rw [z2] at r2
  refine W.newcK C.1.1 C.1.2.1 C.2.1 (C.2.2.1 _ hw rfl) (C.2.2.1 _ (wd_mem i1) rfl) (C.2.2.1 _ (wd_mem i2) rfl) rfl hd (by omega) (by omega) hKn.2.1 rfl fun H' kC hkC g1 g2 g3 => ?_
  have hh : zh (nwZ z t 0 (cN t)) z.1 = t := by
    show (if z.1 = z.1 then t else _) = t
    rw [if_pos rfl]
  have hR' : RelH ε (nwZ z t 0 (cN t)) (nwV v z.1) H' := by
    refine hR.push g2 g3 (by decide) (Or.inl ⟨by rw [hh]; exact ht, ?_⟩)
    rw [hh, ra_new hR]
    refine (u_born (fy t) C.G (lay_G t ht) hKn hkC g1 (typ_t t ht)).to (fun k hk => ?_)
    have hzr : zr (nwZ z t 0 (cN t)) z.1 k = 0 := by
      show (if z.1 = z.1 then 0 else _) = 0
      rw [if_pos rfl]
    have hvv : nwV v z.1 z.1 k = 0 := by
      show (if z.1 = z.1 then 0 else _) = (0 : Int)
      rw [if_pos rfl]
    rcases fyOk_t t ht k hk with f | f | f
    · rw [sv_r (by rw [hh]; exact kd_r (by omega) f), hzr]
      show _ = Value.null
      cases hf : fy t k <;> rw [hf] at f <;> first | rfl | cases f
    · rw [sv_i (by rw [hh]; exact kd_i (by omega) (by rw [f]; rfl)), hvv, f]
      rfl
    · rw [sv_i (by rw [hh]; exact kd_i (by omega) (by rw [f]; rfl)), hvv, f]
      rfl
  have K1 := K H' locs ls hR' hL hl gL (RG.consR gS)
  rw [z1, z2, List.map_cons, show cv ε (.inr (.inl z.1)) = rf ε z.1 from rfl, rf_hi (by have := hR.1.1; have hz1 : z.1 = zn z := rfl; omega), ra_new hR, show zn z + 1 - zn z0 = zn z - zn z0 + 1 by omega, show zs z + cN t - zs z0 = zs z - zs z0 + cN t by omega] at K1
  exact K1
theorem sn_newarray_int (C : Cx ε p R s m args meth c j d) (h0 : zn z0 ≤ zn z ∧ zs z0 ≤ zs z) (hw : Cond.arrayClass .int ∈ lw_tbl) (hd : decode (bc j) pc = .ok (.newarray .int, 2)) (K : Nx ε p l e R s m args below meth c Tg j z0 (pc + 2) (act (.newarray .int) L S z v)) : Wx ε p l e R s m args below meth c Tg j z0 pc L S z v := by
  unfold act at K
  dsimp only at K
  split at K
  · rename_i x r
    split at K
    · rename_i hx
      obtain ⟨⟨r1, r2⟩, K⟩ := K
      intro H locs ls hR hL hl gL gS
      have z1 : zn (nwZ z 100 x.toNat x.toNat) = zn z + 1 := rfl
      have z2 : zs (nwZ z 100 x.toNat x.toNat) = zs z + x.toNat := rfl
      rw [z1] at r1
      rw [z2] at r2
      refine va_newaK (atype := .int) (N := x.toNat) C.1.1 C.1.2.1 (C.2.2.1 _ hw rfl) rfl hd rfl (fun q => by rw [← ofI_zero, ofI_lt gS.hd ⟨by decide, by decide⟩] at q; omega) (ofI_nat gS.hd) (by show x.toNat * 4 ≤ _; omega) (by omega) (by omega) (ra_new hR).symm fun H' cA g1 g2 g3 g4 g5 => ?_
      have hcA : cA = eC ε 100 := Option.some.inj (g5.symm.trans (C.K.2 0 _ rfl).2)
      subst hcA
      have hh : zh (nwZ z 100 x.toNat x.toNat) z.1 = 100 := by
        show (if z.1 = z.1 then 100 else _) = 100
        rw [if_pos rfl]
      have hll : zl (nwZ z 100 x.toNat x.toNat) z.1 = x.toNat := by
        show (if z.1 = z.1 then x.toNat else _) = x.toNat
        rw [if_pos rfl]
      have hvv : ∀ k, sv ε (nwZ z 100 x.toNat x.toNat) (nwV v z.1) z.1 k = .int 0 := fun k => by
        rw [sv_i (by rw [hh]; rfl)]
        show Value.int (Int32.ofInt (if z.1 = z.1 then 0 else _)) = _
        simp
      have hR' : RelH ε (nwZ z 100 x.toNat x.toNat) (nwV v z.1) H' := by
        refine hR.push (by rw [g2, ra_new hR]) (fun q hq => g3 q (by rw [ra_new hR]; exact hq)) (by omega) (Or.inr ⟨by rw [hh]; unfold aT; omega, ?_⟩)
        rw [hh, hll, g1, show sv ε (nwZ z 100 x.toNat x.toNat) (nwV v z.1) z.1 = fun _ => .int 0 from funext hvv]
        rfl
      have K1 := K H' locs ls hR' hL hl gL (RG.consR gS.tl)
      rw [z1, z2, List.map_cons, show cv ε (.inr (.inl z.1)) = rf ε z.1 from rfl, rf_hi (by have := hR.1.1; have hz1 : z.1 = zn z := rfl; omega), show zn z + 1 - zn z0 = zn z - zn z0 + 1 by omega, show zs z + x.toNat - zs z0 = zs z - zs z0 + x.toNat by omega] at K1
      exact K1
    · exact K.elim
  · exact K.elim
theorem sn_newarray_char (C : Cx ε p R s m args meth c j d) (h0 : zn z0 ≤ zn z ∧ zs z0 ≤ zs z) (hw : Cond.arrayClass .char ∈ lw_tbl) (hd : decode (bc j) pc = .ok (.newarray .char, 2)) (K : Nx ε p l e R s m args below meth c Tg j z0 (pc + 2) (act (.newarray .char) L S z v)) : Wx ε p l e R s m args below meth c Tg j z0 pc L S z v := by
  unfold act at K
  dsimp only at K
  split at K
  · rename_i x r
    split at K
    · rename_i hx
      obtain ⟨⟨r1, r2⟩, K⟩ := K
      intro H locs ls hR hL hl gL gS
      have z1 : zn (nwZ z 101 x.toNat x.toNat) = zn z + 1 := rfl
      have z2 : zs (nwZ z 101 x.toNat x.toNat) = zs z + x.toNat := rfl
      rw [z1] at r1
      rw [z2] at r2
      refine va_newaK (atype := .char) (N := x.toNat) C.1.1 C.1.2.1 (C.2.2.1 _ hw rfl) rfl hd rfl (fun q => by rw [← ofI_zero, ofI_lt gS.hd ⟨by decide, by decide⟩] at q; omega) (ofI_nat gS.hd) (by show x.toNat * 2 ≤ _; omega) (by omega) (by omega) (ra_new hR).symm fun H' cA g1 g2 g3 g4 g5 => ?_
      have hcA : cA = eC ε 101 := Option.some.inj (g5.symm.trans (C.K.2 1 _ rfl).2)
      subst hcA
      have hh : zh (nwZ z 101 x.toNat x.toNat) z.1 = 101 := by
        show (if z.1 = z.1 then 101 else _) = 101
        rw [if_pos rfl]
      have hll : zl (nwZ z 101 x.toNat x.toNat) z.1 = x.toNat := by
        show (if z.1 = z.1 then x.toNat else _) = x.toNat
        rw [if_pos rfl]
      have hvv : ∀ k, sv ε (nwZ z 101 x.toNat x.toNat) (nwV v z.1) z.1 k = .int 0 := fun k => by
        rw [sv_i (by rw [hh]; rfl)]
        show Value.int (Int32.ofInt (if z.1 = z.1 then 0 else _)) = _
        simp
      have hR' : RelH ε (nwZ z 101 x.toNat x.toNat) (nwV v z.1) H' := by
        refine hR.push (by rw [g2, ra_new hR]) (fun q hq => g3 q (by rw [ra_new hR]; exact hq)) (by omega) (Or.inr ⟨by rw [hh]; unfold aT; omega, ?_⟩)
        rw [hh, hll, g1, show sv ε (nwZ z 101 x.toNat x.toNat) (nwV v z.1) z.1 = fun _ => .int 0 from funext hvv]
        rfl
      have K1 := K H' locs ls hR' hL hl gL (RG.consR gS.tl)
      rw [z1, z2, List.map_cons, show cv ε (.inr (.inl z.1)) = rf ε z.1 from rfl, rf_hi (by have := hR.1.1; have hz1 : z.1 = zn z := rfl; omega), show zn z + 1 - zn z0 = zn z - zn z0 + 1 by omega, show zs z + x.toNat - zs z0 = zs z - zs z0 + x.toNat by omega] at K1
      exact K1
    · exact K.elim
  · exact K.elim
theorem sn_newarray_long (C : Cx ε p R s m args meth c j d) (h0 : zn z0 ≤ zn z ∧ zs z0 ≤ zs z) (hw : Cond.arrayClass .long ∈ lw_tbl) (hd : decode (bc j) pc = .ok (.newarray .long, 2)) (K : Nx ε p l e R s m args below meth c Tg j z0 (pc + 2) (act (.newarray .long) L S z v)) : Wx ε p l e R s m args below meth c Tg j z0 pc L S z v := by
  unfold act at K
  dsimp only at K
  split at K
  · rename_i x r
    split at K
    · rename_i hx
      obtain ⟨⟨r1, r2⟩, K⟩ := K
      intro H locs ls hR hL hl gL gS
      have z1 : zn (nwZ z 102 x.toNat x.toNat) = zn z + 1 := rfl
      have z2 : zs (nwZ z 102 x.toNat x.toNat) = zs z + x.toNat := rfl
      rw [z1] at r1
      rw [z2] at r2
      refine va_newaK (atype := .long) (N := x.toNat) C.1.1 C.1.2.1 (C.2.2.1 _ hw rfl) rfl hd rfl (fun q => by rw [← ofI_zero, ofI_lt gS.hd ⟨by decide, by decide⟩] at q; omega) (ofI_nat gS.hd) (by show x.toNat * 8 ≤ _; omega) (by omega) (by omega) (ra_new hR).symm fun H' cA g1 g2 g3 g4 g5 => ?_
      have hcA : cA = eC ε 102 := Option.some.inj (g5.symm.trans (C.K.2 2 _ rfl).2)
      subst hcA
      have hh : zh (nwZ z 102 x.toNat x.toNat) z.1 = 102 := by
        show (if z.1 = z.1 then 102 else _) = 102
        rw [if_pos rfl]
      have hll : zl (nwZ z 102 x.toNat x.toNat) z.1 = x.toNat := by
        show (if z.1 = z.1 then x.toNat else _) = x.toNat
        rw [if_pos rfl]
      have hvv : ∀ k, sv ε (nwZ z 102 x.toNat x.toNat) (nwV v z.1) z.1 k = .long 0 := fun k => by
        rw [sv_l (by rw [hh]; rfl)]
        show Value.long (if z.1 = z.1 then 0 else _) = _
        simp
      have hR' : RelH ε (nwZ z 102 x.toNat x.toNat) (nwV v z.1) H' := by
        refine hR.push (by rw [g2, ra_new hR]) (fun q hq => g3 q (by rw [ra_new hR]; exact hq)) (by omega) (Or.inr ⟨by rw [hh]; unfold aT; omega, ?_⟩)
        rw [hh, hll, g1, show sv ε (nwZ z 102 x.toNat x.toNat) (nwV v z.1) z.1 = fun _ => .long 0 from funext hvv]
        rfl
      have K1 := K H' locs ls hR' hL hl gL (RG.consR gS.tl)
      rw [z1, z2, List.map_cons, show cv ε (.inr (.inl z.1)) = rf ε z.1 from rfl, rf_hi (by have := hR.1.1; have hz1 : z.1 = zn z := rfl; omega), show zn z + 1 - zn z0 = zn z - zn z0 + 1 by omega, show zs z + x.toNat - zs z0 = zs z - zs z0 + x.toNat by omega] at K1
      exact K1
    · exact K.elim
  · exact K.elim
end SH
