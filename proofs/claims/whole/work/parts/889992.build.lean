/-! ===== what the constructors build ===== -/
set_option maxHeartbeats 4000000
set_option maxRecDepth 4000
abbrev Cd : Type := Nat × Nat × List (Nat × Nat) × List (Nat × Int)
def rlk : List (Nat × Nat) → Nat → Nat
  | [], _ => 0
  | (f, n) :: l, k => if k = f then n else rlk l k
def ilk : List (Nat × Int) → Nat → Int
  | [], _ => 0
  | (f, x) :: l, k => if k = f then x else ilk l k
def Cel (z : xZ) (v : xV) (a : Nat) (c : Cd) : Prop := zh z a = c.1 ∧ zl z a = c.2.1 ∧ (∀ k, zr z a k = rlk c.2.2.1 k) ∧ ∀ k, v a k = ilk c.2.2.2 k
def Seg (z : xZ) (v : xV) : Nat → List Cd → Prop
  | _, [] => True
  | a, c :: cs => Cel z v a c ∧ Seg z v (a + 1) cs
def Fr (n : Nat) (z : xZ) (v : xV) (z' : xZ) (v' : xV) : Prop := ∀ a, a < n → zh z' a = zh z a ∧ zl z' a = zl z a ∧ zr z' a = zr z a ∧ v' a = v a
theorem Cel_fr {z z' : xZ} {v v' : xV} {a : Nat} {c : Cd} (h : zh z' a = zh z a ∧ zl z' a = zl z a ∧ zr z' a = zr z a ∧ v' a = v a) (k : Cel z v a c) : Cel z' v' a c := ⟨h.1.trans k.1, h.2.1.trans k.2.1, fun j => by rw [h.2.2.1]; exact k.2.2.1 j, fun j => by rw [h.2.2.2]; exact k.2.2.2 j⟩
theorem Seg_fr {z z' : xZ} {v v' : xV} : ∀ (cs : List Cd) (a : Nat), (∀ x, a ≤ x → x < a + cs.length → zh z' x = zh z x ∧ zl z' x = zl z x ∧ zr z' x = zr z x ∧ v' x = v x) → Seg z v a cs → Seg z' v' a cs
  | [], _, _, _ => trivial
  | c :: cs, a, h, k => ⟨Cel_fr (h a (by omega) (by rw [List.length_cons]; omega)) k.1, Seg_fr cs (a + 1) (fun x x1 x2 => h x (by omega) (by rw [List.length_cons]; omega)) k.2⟩
theorem Seg_ap {z : xZ} {v : xV} : ∀ (cs ds : List Cd) (a : Nat), Seg z v a (cs ++ ds) ↔ (Seg z v a cs ∧ Seg z v (a + cs.length) ds)
  | [], ds, a => ⟨fun h => ⟨trivial, h⟩, fun h => h.2⟩
  | c :: cs, ds, a => by
    show (Cel z v a c ∧ Seg z v (a + 1) (cs ++ ds)) ↔ ((Cel z v a c ∧ Seg z v (a + 1) cs) ∧ Seg z v (a + (cs.length + 1)) ds)
    rw [Seg_ap cs ds (a + 1), show a + (cs.length + 1) = a + 1 + cs.length by omega, and_assoc]
theorem Seg_at {z : xZ} {v : xV} : ∀ (cs : List Cd) (a i : Nat) (c : Cd), Seg z v a cs → cs[i]? = some c → Cel z v (a + i) c
  | [], _, _, _, _, h => by simp at h
  | c :: cs, a, 0, c', k, h => by
    rw [List.getElem?_cons_zero] at h
    injection h with h
    subst h
    exact k.1
  | c :: cs, a, i + 1, c', k, h => by
    rw [List.getElem?_cons_succ] at h
    have q := Seg_at cs (a + 1) i c' k.2 h
    rw [show a + (i + 1) = a + 1 + i by omega]
    exact q
def Bd (b : Nat) (z0 : xZ) (v0 : xV) (o : Cd) (cs : List Cd) (n s : Nat) (z : xZ) (v : xV) : Prop := zn z = n ∧ n = b + 1 + cs.length ∧ zs z = zs z0 + s ∧ Cel z v b o ∧ Seg z v (b + 1) cs ∧ Fr b z0 v0 z v
theorem Bd.hn {b : Nat} {z0 : xZ} {v0 : xV} {o : Cd} {cs : List Cd} {n s : Nat} {z : xZ} {v : xV} (h : Bd b z0 v0 o cs n s z v) : zn z = n := h.1
theorem Bd.hl {b : Nat} {z0 : xZ} {v0 : xV} {o : Cd} {cs : List Cd} {n s : Nat} {z : xZ} {v : xV} (h : Bd b z0 v0 o cs n s z v) : n = b + 1 + cs.length := h.2.1
theorem Bd.hs {b : Nat} {z0 : xZ} {v0 : xV} {o : Cd} {cs : List Cd} {n s : Nat} {z : xZ} {v : xV} (h : Bd b z0 v0 o cs n s z v) : zs z = zs z0 + s := h.2.2.1
theorem Bd.ob {b : Nat} {z0 : xZ} {v0 : xV} {o : Cd} {cs : List Cd} {n s : Nat} {z : xZ} {v : xV} (h : Bd b z0 v0 o cs n s z v) : Cel z v b o := h.2.2.2.1
theorem Bd.sg {b : Nat} {z0 : xZ} {v0 : xV} {o : Cd} {cs : List Cd} {n s : Nat} {z : xZ} {v : xV} (h : Bd b z0 v0 o cs n s z v) : Seg z v (b + 1) cs := h.2.2.2.2.1
theorem Bd.fr {b : Nat} {z0 : xZ} {v0 : xV} {o : Cd} {cs : List Cd} {n s : Nat} {z : xZ} {v : xV} (h : Bd b z0 v0 o cs n s z v) : Fr b z0 v0 z v := h.2.2.2.2.2
theorem Bd_0 {b : Nat} {o : Cd} {z : xZ} {v : xV} (hn : zn z = b + 1) (hc : Cel z v b o) : Bd b z v o [] (b + 1) 0 z v := ⟨hn, rfl, rfl, hc, trivial, fun _ _ => ⟨rfl, rfl, rfl, rfl⟩⟩
section BB
variable {b n s : Nat} {z0 z : xZ} {v0 v : xV} {o : Cd} {cs : List Cd}
theorem nw_off {t l sl a : Nat} (h : a ≠ zn z) : zh (nwZ z t l sl) a = zh z a ∧ zl (nwZ z t l sl) a = zl z a ∧ zr (nwZ z t l sl) a = zr z a ∧ nwV v (zn z) a = v a := by
  have h' : a ≠ z.1 := h
  refine ⟨if_neg h', if_neg h', funext fun k => if_neg h', funext fun k => if_neg h'⟩
theorem Bd_new {t l sl : Nat} (h : Bd b z0 v0 o cs n s z v) : Bd b z0 v0 o (cs ++ [(t, l, [], [])]) (n + 1) (s + sl) (nwZ z t l sl) (nwV v n) := by
  have e : zn z = n := h.hn
  have hl := h.hl
  have off : ∀ a, a ≠ n → zh (nwZ z t l sl) a = zh z a ∧ zl (nwZ z t l sl) a = zl z a ∧ zr (nwZ z t l sl) a = zr z a ∧ nwV v n a = v a := fun a ha => by
    have q := nw_off (z := z) (v := v) (t := t) (l := l) (sl := sl) (a := a) (by omega)
    rw [e] at q
    exact q
  refine ⟨?_, ?_, ?_, Cel_fr (off b (by omega)) h.ob, (Seg_ap _ _ _).mpr ⟨Seg_fr cs (b + 1) (fun x x1 x2 => off x (by omega)) h.sg, ?_, trivial⟩, fun a ha => ?_⟩
  · show z.1 + 1 = n + 1
    rw [show z.1 = n from e]
  · rw [List.length_append, List.length_singleton]; omega
  · show z.2.1 + sl = zs z0 + (s + sl)
    have := h.hs
    unfold zs at this ⊢
    omega
  · rw [← hl]
    refine ⟨if_pos (show n = z.1 from e.symm), if_pos (show n = z.1 from e.symm), fun k => if_pos (show n = z.1 from e.symm), fun k => if_pos rfl⟩
  · obtain ⟨q1, q2, q3, q4⟩ := off a (by omega)
    obtain ⟨r1, r2, r3, r4⟩ := h.fr a ha
    exact ⟨q1.trans r1, q2.trans r2, q3.trans r3, q4.trans r4⟩
theorem Bd_child {c0 : Cd} {T : List Cd} {m s' : Nat} {z2 : xZ} {v2 : xV} (h : Bd b z0 v0 o (cs ++ [c0]) (n + 1) s z v) (hm : T.length = m) (h1 : zn z2 = n + m) (h2 : zs z2 = zs z + s') (h3 : Fr n z v z2 v2) (h4 : Seg z2 v2 n T) : Bd b z0 v0 o (cs ++ T) (n + m) (s + s') z2 v2 := by
  have hl := h.hl
  rw [List.length_append, List.length_singleton] at hl
  refine ⟨h1, ?_, ?_, Cel_fr (h3 b (by omega)) h.ob, (Seg_ap _ _ _).mpr ⟨Seg_fr cs (b + 1) (fun x x1 x2 => h3 x (by omega)) ((Seg_ap _ _ _).mp h.sg).1, ?_⟩, fun a ha => ?_⟩
  · rw [List.length_append, hm]; omega
  · rw [h2, h.hs]; omega
  · rw [show b + 1 + cs.length = n by omega]; exact h4
  · obtain ⟨q1, q2, q3, q4⟩ := h3 a (by omega)
    obtain ⟨r1, r2, r3, r4⟩ := h.fr a ha
    exact ⟨q1.trans r1, q2.trans r2, q3.trans r3, q4.trans r4⟩
theorem Bd_last {c0 : Cd} (h : Bd b z0 v0 o (cs ++ [c0]) (n + 1) s z v) : zn z = n + 1 ∧ Cel z v n c0 := by
  have hl := h.hl
  rw [List.length_append, List.length_singleton] at hl
  have q := ((Seg_ap _ _ _).mp h.sg).2
  rw [show b + 1 + cs.length = n by omega] at q
  exact ⟨h.hn, q.1⟩
theorem Bd_putR {f x hh l : Nat} {rs : List (Nat × Nat)} {ii : List (Nat × Int)} (h : Bd b z0 v0 (hh, l, rs, ii) cs n s z v) : Bd b z0 v0 (hh, l, (f, x) :: rs, ii) cs n s (upR z b f x) v := by
  have off : ∀ a, a ≠ b → zr (upR z b f x) a = zr z a := fun a ha => funext fun k => if_neg (fun q => ha q.1)
  refine ⟨h.hn, h.hl, h.hs, ⟨h.ob.1, h.ob.2.1, fun k => ?_, h.ob.2.2.2⟩, Seg_fr (z := z) (v := v) (z' := upR z b f x) (v' := v) cs (b + 1) (fun y y1 _ => ⟨rfl, rfl, off y (by omega), rfl⟩) h.sg, fun a ha => ?_⟩
  · show (if b = b ∧ k = f then x else zr z b k) = if k = f then x else rlk rs k
    by_cases c : k = f
    · rw [if_pos ⟨rfl, c⟩, if_pos c]
    · rw [if_neg (fun q => c q.2), if_neg c]; exact h.ob.2.2.1 k
  · obtain ⟨r1, r2, r3, r4⟩ := h.fr a ha
    exact ⟨r1, r2, (off a (by omega)).trans r3, r4⟩
theorem Bd_putI {f hh l : Nat} {x : Int} {rs : List (Nat × Nat)} {ii : List (Nat × Int)} (h : Bd b z0 v0 (hh, l, rs, ii) cs n s z v) : Bd b z0 v0 (hh, l, rs, (f, x) :: ii) cs n s z (up v b f x) := by
  refine ⟨h.hn, h.hl, h.hs, ⟨h.ob.1, h.ob.2.1, h.ob.2.2.1, fun k => ?_⟩, Seg_fr cs (b + 1) (fun y y1 _ => ⟨rfl, rfl, rfl, up_off _ _ _ (by omega)⟩) h.sg, fun a ha => ?_⟩
  · show up v b f x b k = if k = f then x else ilk ii k
    rw [up_ap]
    by_cases c : k = f
    · rw [if_pos ⟨rfl, c⟩, if_pos c]
    · rw [if_neg (fun q => c q.2), if_neg c]; exact h.ob.2.2.2 k
  · obtain ⟨r1, r2, r3, r4⟩ := h.fr a ha
    exact ⟨r1, r2, r3, (up_off _ _ _ (by omega)).trans r4⟩
theorem Bd_ast {t l i : Nat} {x : Int} {ii : List (Nat × Int)} (h : Bd b z0 v0 o (cs ++ [(t, l, [], ii)]) (n + 1) s z v) : Bd b z0 v0 o (cs ++ [(t, l, [], (i, x) :: ii)]) (n + 1) s z (up v n i x) := by
  have hl := h.hl
  rw [List.length_append, List.length_singleton] at hl
  have e : b + 1 + cs.length = n := by omega
  obtain ⟨q1, q2⟩ := (Seg_ap _ _ _).mp h.sg
  rw [e] at q2
  refine ⟨h.hn, ?_, h.hs, Cel_fr ⟨rfl, rfl, rfl, up_off _ _ _ (by omega)⟩ h.ob, (Seg_ap _ _ _).mpr ⟨Seg_fr cs (b + 1) (fun y y1 y2 => ⟨rfl, rfl, rfl, up_off _ _ _ (by omega)⟩) q1, ?_⟩, fun a ha => ?_⟩
  · rw [List.length_append, List.length_singleton]; omega
  · rw [e]
    refine ⟨⟨q2.1.1, q2.1.2.1, q2.1.2.2.1, fun k => ?_⟩, trivial⟩
    show up v n i x n k = if k = i then x else ilk ii k
    rw [up_ap]
    by_cases c : k = i
    · rw [if_pos ⟨rfl, c⟩, if_pos c]
    · rw [if_neg (fun q => c q.2), if_neg c]; exact q2.1.2.2.2 k
  · obtain ⟨r1, r2, r3, r4⟩ := h.fr a ha
    exact ⟨r1, r2, r3, (up_off _ _ _ (by omega)).trans r4⟩
end BB
section BX
variable {b n s : Nat} {z0 z : xZ} {v0 v : xV} {o : Cd} {cs : List Cd} {E : Nat → xZ → xV → List xv → (xZ → xV → xv → Prop) → Prop} {K : Nat → List xv → List xv → xZ → xV → Prop} {ft : Nat} {Q : xZ → xV → xv → Prop} {is : List Instr} {L S : List xv}
theorem xb_obj {hh l : Nat} {rs : List (Nat × Nat)} {ii : List (Nat × Int)} (h : Bd b z0 v0 (hh, l, rs, ii) cs n s z v) (h11 : hh < 11) (hQ : xs E K ft Q is L [] z v) : xs E K ft Q (.monitorenter :: is) L [.inr (.inl b)] z v := by
  rw [x_obj]
  exact ⟨by rw [h.ob.1]; exact h11, hQ⟩
theorem xb_newI {c : Int} (h : Bd b z0 v0 o cs n s z v) (hc : 0 ≤ c ∧ c ≤ 60000000) (hQ : ∀ z' v', Bd b z0 v0 o (cs ++ [(100, c.toNat, [], [])]) (n + 1) (s + c.toNat) z' v' → xs E K ft Q is L (.inr (.inl n) :: S) z' v') : xs E K ft Q (.newarray .int :: is) L (.inl c :: S) z v := by
  rw [x_newI, show z.1 = n from h.hn]
  exact ⟨hc, hQ _ _ (Bd_new h)⟩
theorem xb_newC {c : Int} (h : Bd b z0 v0 o cs n s z v) (hc : 0 ≤ c ∧ c ≤ 60000000) (hQ : ∀ z' v', Bd b z0 v0 o (cs ++ [(101, c.toNat, [], [])]) (n + 1) (s + c.toNat) z' v' → xs E K ft Q is L (.inr (.inl n) :: S) z' v') : xs E K ft Q (.newarray .char :: is) L (.inl c :: S) z v := by
  rw [x_newC, show z.1 = n from h.hn]
  exact ⟨hc, hQ _ _ (Bd_new h)⟩
theorem xb_anew {c : Int} {m : Nat} (h : Bd b z0 v0 o cs n s z v) (hc : 0 ≤ c ∧ c ≤ 60000000) (hQ : ∀ z' v', Bd b z0 v0 o (cs ++ [(104, c.toNat, [], [])]) (n + 1) (s + c.toNat) z' v' → xs E K ft Q is L (.inr (.inl n) :: S) z' v') : xs E K ft Q (.anewarray m :: is) L (.inl c :: S) z v := by
  rw [x_anew, show z.1 = n from h.hn]
  exact ⟨hc, hQ _ _ (Bd_new h)⟩
theorem xb_new {m : Nat} (h : Bd b z0 v0 o cs n s z v) (hQ : ∀ z' v', Bd b z0 v0 o (cs ++ [(m / 128, 0, [], [])]) (n + 1) (s + m % 128) z' v' → xs E K ft Q is L (.inr (.inl n) :: S) z' v') : xs E K ft Q (.new m :: is) L S z v := by
  rw [x_new, show z.1 = n from h.hn]
  exact hQ _ _ (Bd_new h)
theorem xb_putR {f x hh l : Nat} {rs : List (Nat × Nat)} {ii : List (Nat × Int)} (h : Bd b z0 v0 (hh, l, rs, ii) cs n s z v) (e : hh = f / 128) (hQ : ∀ z', Bd b z0 v0 (hh, l, (f % 128, x) :: rs, ii) cs n s z' v → xs E K ft Q is L S z' v) : xs E K ft Q (.checkcast f :: is) L (.inr (.inl x) :: .inr (.inl b) :: S) z v := by
  rw [x_putR]
  exact ⟨h.ob.1.trans e, hQ _ (Bd_putR h)⟩
theorem xb_putI {f hh l : Nat} {x : Int} {rs : List (Nat × Nat)} {ii : List (Nat × Int)} (h : Bd b z0 v0 (hh, l, rs, ii) cs n s z v) (e : hh = f / 128) (hQ : ∀ v', Bd b z0 v0 (hh, l, rs, (f % 128, x) :: ii) cs n s z v' → xs E K ft Q is L S z v') : xs E K ft Q (.putfield f :: is) L (.inl x :: .inr (.inl b) :: S) z v := by
  rw [x_putI]
  exact ⟨h.ob.1.trans e, hQ _ (Bd_putI h)⟩
theorem xb_putZ {f hh l : Nat} {x : Int} {rs : List (Nat × Nat)} {ii : List (Nat × Int)} (h : Bd b z0 v0 (hh, l, rs, ii) cs n s z v) (e : hh = f / 128) (hx : x = 0 ∨ x = 1) (hQ : ∀ v', Bd b z0 v0 (hh, l, rs, (f % 128, x) :: ii) cs n s z v' → xs E K ft Q is L S z v') : xs E K ft Q (.putstatic f :: is) L (.inl x :: .inr (.inl b) :: S) z v := by
  rw [x_putZ]
  exact ⟨h.ob.1.trans e, hx, hQ _ (Bd_putI h)⟩
theorem xb_ast {l : Nat} {i x : Int} {ii : List (Nat × Int)} (h : Bd b z0 v0 o (cs ++ [(100, l, [], ii)]) (n + 1) s z v) (hi : 0 ≤ i ∧ i < (l : Int)) (hQ : ∀ v', Bd b z0 v0 o (cs ++ [(100, l, [], (i.toNat, x) :: ii)]) (n + 1) s z v' → xs E K ft Q is L S z v') : xs E K ft Q (.iastore :: is) L (.inl x :: .inl i :: .inr (.inl n) :: S) z v := by
  rw [x_iast]
  have q := Bd_last h
  exact ⟨q.2.1, by rw [q.2.2.1]; exact hi, hQ _ (Bd_ast h)⟩
theorem xb_c1 {j c kind a : Nat} (e1 : c % 1000 / 2 = 1) (e2 : c / 1000 = kind + 1) (e3 : (c % 2 == 1) = false) (hk : zh z a = kind) (hS : sh4 S = true) (hE : E j z v [.inr (.inl a)] (fun z' v' _ => xs E K ft Q is L S z' v')) : xs E K ft Q (.invokeinterface j c :: is) L (.inr (.inl a) :: S) z v := by
  rw [x_call, e1, e2, e3]
  simp -implicitDefEqProofs only [spl, hS]
  exact ⟨by simp [rcv, hk], hE⟩
theorem xb_c2 {j c kind a : Nat} {x : Int} (e1 : c % 1000 / 2 = 2) (e2 : c / 1000 = kind + 1) (e3 : (c % 2 == 1) = false) (hk : zh z a = kind) (hS : sh4 S = true) (hE : E j z v [.inr (.inl a), .inl x] (fun z' v' _ => xs E K ft Q is L S z' v')) : xs E K ft Q (.invokeinterface j c :: is) L (.inl x :: .inr (.inl a) :: S) z v := by
  rw [x_call, e1, e2, e3]
  simp -implicitDefEqProofs only [spl, hS]
  exact ⟨by simp [rcv, hk], hE⟩
theorem xb_c4 {j c kind a : Nat} {x y w : Int} (e1 : c % 1000 / 2 = 4) (e2 : c / 1000 = kind + 1) (e3 : (c % 2 == 1) = false) (hk : zh z a = kind) (hS : sh4 S = true) (hE : E j z v [.inr (.inl a), .inl x, .inl y, .inl w] (fun z' v' _ => xs E K ft Q is L S z' v')) : xs E K ft Q (.invokeinterface j c :: is) L (.inl w :: .inl y :: .inl x :: .inr (.inl a) :: S) z v := by
  rw [x_call, e1, e2, e3]
  simp -implicitDefEqProofs only [spl, hS]
  exact ⟨by simp [rcv, hk], hE⟩
end BX
section KK
variable {d b : Nat} {z : xZ} {v : xV} {Q : xZ → xV → xv → Prop}
def sceneT (b : Nat) (th : Int) : List Cd := [(6, 0, [(8, b + 8), (7, b + 7), (6, b + 6), (5, b + 5), (4, b + 4), (3, b + 3), (2, b + 2), (1, b + 1)], [(0, th)]), (100, 64, [], []), (100, 64, [], []), (100, 64, [], []), (100, 10, [], []), (100, 10, [], []), (100, 10, [], []), (100, 10, [], []), (100, 10, [], [])]
def lawT (b : Nat) : List Cd := [(2, 0, [(8, b + 7), (7, b + 6), (4, b + 5), (3, b + 4), (2, b + 3), (1, b + 2), (0, b + 1)], []), (100, 400, [], []), (100, 16, [], []), (100, 16, [], []), (100, 16, [], []), (100, 16, [], []), (100, 10, [], []), (100, 32, [], [])]
def linesT (b : Nat) : List Cd := [(3, 0, [(5, b + 6), (4, b + 5), (3, b + 4), (2, b + 3), (1, b + 2), (0, b + 1)], []), (100, 16, [], []), (100, 16, [], []), (100, 16, [], []), (100, 16, [], []), (100, 16, [], []), (100, 16, [], [])]
def rowT (b : Nat) (c : Nat) (lo hi : Int) : List Cd := [(5, 0, [(0, b + 1)], [(2, hi), (1, lo)]), (100, c, [], [])]
def wishT (b : Nat) : List Cd := [(7, 0, [(0, b + 1)], []), (105, 8, [(0, b + 2), (1, b + 3), (2, b + 4), (3, b + 5), (4, b + 6), (5, b + 7), (6, b + 8), (7, b + 9)], []), (100, 4, [], [(3, 3), (2, 2), (1, 1), (0, 0)]), (100, 4, [], [(3, 3), (2, 2), (1, 1), (0, 0)]), (100, 4, [], [(3, 3), (2, 2), (1, 1), (0, 0)]), (100, 4, [], [(3, 3), (2, 2), (1, 1), (0, 0)]), (100, 4, [], [(3, 3), (2, 2), (1, 1), (0, 0)]), (100, 4, [], [(3, 3), (2, 2), (1, 1), (0, 0)]), (100, 4, [], [(3, 3), (2, 2), (1, 1), (0, 0)]), (100, 4, [], [(3, 3), (2, 2), (1, 1), (0, 0)])]
def toldT (b : Nat) : List Cd := (4, 0, [(5, b + 10), (4, b + 8), (3, b + 6), (2, b + 4), (1, b + 2), (0, b + 1)], []) :: ([(100, 8, [], [])] ++ rowT (b + 2) 12 1 99 ++ rowT (b + 4) 12 0 99 ++ rowT (b + 6) 9 1 60 ++ rowT (b + 8) 10 0 1023 ++ wishT (b + 10))
def wholeT (b : Nat) : List Cd := (1, 0, [(6, b + 52), (4, b + 32), (3, b + 25), (2, b + 18), (1, b + 10), (0, b + 1)], []) :: (sceneT (b + 1) 0 ++ lawT (b + 10) ++ linesT (b + 18) ++ linesT (b + 25) ++ toldT (b + 32) ++ [(100, 600, [], [])])
def tokT (b : Nat) : List Cd := [(9, 0, [(1, b + 2), (0, b + 1)], []), (100, 401, [], []), (100, 401, [], [])]
def readT (b : Nat) : List Cd := (8, 0, [(2, b + 12), (1, b + 4), (0, b + 1)], []) :: (tokT (b + 1) ++ lawT (b + 4) ++ [(100, 32, [], [])])
theorem k_scene {th : Int} (hth : th = 0 ∨ th = 1) (hn : zn z = b + 1) (hc : Cel z v b (6, 0, [], [])) (hQ : ∀ z' v', zn z' = b + 9 → zs z' = zs z + 242 → Fr b z v z' v' → Seg z' v' b (sceneT b th) → Q z' v' (.inl 0)) : EvM TB (d + 1) 3 z v [.inr (.inl b), .inl th] Q := by
  have h := Bd_0 hn hc
  rw [e_ev]
  simp -implicitDefEqProofs only [lay_a, lay_i, lay_n]
  rw [g_3_0]
  simp -implicitDefEqProofs only [x_aload, nth_0, nth_s, ldA_a, ldI_i, x_iconst, x_iload, x_dupA, x_dupI, x_nil, g_3_0]
  refine xb_obj h (by decide) ?_
  try simp -implicitDefEqProofs only [x_aload, nth_0, nth_s, ldA_a, ldI_i, x_iconst, x_iload, x_dupA, x_dupI, x_nil, g_3_0]
  refine xb_newI h (by decide) (fun z1 v1 h => ?_)
  refine xb_putR h (by decide) (fun z1 h => ?_)
  try simp -implicitDefEqProofs only [x_aload, nth_0, nth_s, ldA_a, ldI_i, x_iconst, x_iload, x_dupA, x_dupI, x_nil, g_3_0]
  refine xb_newI h (by decide) (fun z1 v1 h => ?_)
  refine xb_putR h (by decide) (fun z1 h => ?_)
  try simp -implicitDefEqProofs only [x_aload, nth_0, nth_s, ldA_a, ldI_i, x_iconst, x_iload, x_dupA, x_dupI, x_nil, g_3_0]
  refine xb_newI h (by decide) (fun z1 v1 h => ?_)
  refine xb_putR h (by decide) (fun z1 h => ?_)
  try simp -implicitDefEqProofs only [x_aload, nth_0, nth_s, ldA_a, ldI_i, x_iconst, x_iload, x_dupA, x_dupI, x_nil, g_3_0]
  refine xb_newI h (by decide) (fun z1 v1 h => ?_)
  refine xb_putR h (by decide) (fun z1 h => ?_)
  try simp -implicitDefEqProofs only [x_aload, nth_0, nth_s, ldA_a, ldI_i, x_iconst, x_iload, x_dupA, x_dupI, x_nil, g_3_0]
  refine xb_newI h (by decide) (fun z1 v1 h => ?_)
  refine xb_putR h (by decide) (fun z1 h => ?_)
  try simp -implicitDefEqProofs only [x_aload, nth_0, nth_s, ldA_a, ldI_i, x_iconst, x_iload, x_dupA, x_dupI, x_nil, g_3_0]
  refine xb_newI h (by decide) (fun z1 v1 h => ?_)
  refine xb_putR h (by decide) (fun z1 h => ?_)
  try simp -implicitDefEqProofs only [x_aload, nth_0, nth_s, ldA_a, ldI_i, x_iconst, x_iload, x_dupA, x_dupI, x_nil, g_3_0]
  refine xb_newI h (by decide) (fun z1 v1 h => ?_)
  refine xb_putR h (by decide) (fun z1 h => ?_)
  try simp -implicitDefEqProofs only [x_aload, nth_0, nth_s, ldA_a, ldI_i, x_iconst, x_iload, x_dupA, x_dupI, x_nil, g_3_0]
  refine xb_newI h (by decide) (fun z1 v1 h => ?_)
  refine xb_putR h (by decide) (fun z1 h => ?_)
  try simp -implicitDefEqProofs only [x_aload, nth_0, nth_s, ldA_a, ldI_i, x_iconst, x_iload, x_dupA, x_dupI, x_nil, g_3_0]
  refine xb_putZ h (by decide) hth (fun v1 h => ?_)
  rw [x_ret]
  exact hQ _ _ h.hn h.hs h.fr ⟨h.ob, h.sg⟩
theorem k_law  (hn : zn z = b + 1) (hc : Cel z v b (2, 0, [], [])) (hQ : ∀ z' v', zn z' = b + 8 → zs z' = zs z + 506 → Fr b z v z' v' → Seg z' v' b (lawT b) → Q z' v' (.inl 0)) : EvM TB (d + 1) 4 z v [.inr (.inl b)] Q := by
  have h := Bd_0 hn hc
  rw [e_ev]
  simp -implicitDefEqProofs only [lay_a, lay_i, lay_n]
  rw [g_4_0]
  simp -implicitDefEqProofs only [x_aload, nth_0, nth_s, ldA_a, ldI_i, x_iconst, x_iload, x_dupA, x_dupI, x_nil, g_4_0]
  refine xb_obj h (by decide) ?_
  try simp -implicitDefEqProofs only [x_aload, nth_0, nth_s, ldA_a, ldI_i, x_iconst, x_iload, x_dupA, x_dupI, x_nil, g_4_0]
  refine xb_newI h (by decide) (fun z1 v1 h => ?_)
  refine xb_putR h (by decide) (fun z1 h => ?_)
  try simp -implicitDefEqProofs only [x_aload, nth_0, nth_s, ldA_a, ldI_i, x_iconst, x_iload, x_dupA, x_dupI, x_nil, g_4_0]
  refine xb_newI h (by decide) (fun z1 v1 h => ?_)
  refine xb_putR h (by decide) (fun z1 h => ?_)
  try simp -implicitDefEqProofs only [x_aload, nth_0, nth_s, ldA_a, ldI_i, x_iconst, x_iload, x_dupA, x_dupI, x_nil, g_4_0]
  refine xb_newI h (by decide) (fun z1 v1 h => ?_)
  refine xb_putR h (by decide) (fun z1 h => ?_)
  try simp -implicitDefEqProofs only [x_aload, nth_0, nth_s, ldA_a, ldI_i, x_iconst, x_iload, x_dupA, x_dupI, x_nil, g_4_0]
  refine xb_newI h (by decide) (fun z1 v1 h => ?_)
  refine xb_putR h (by decide) (fun z1 h => ?_)
  try simp -implicitDefEqProofs only [x_aload, nth_0, nth_s, ldA_a, ldI_i, x_iconst, x_iload, x_dupA, x_dupI, x_nil, g_4_0]
  refine xb_newI h (by decide) (fun z1 v1 h => ?_)
  refine xb_putR h (by decide) (fun z1 h => ?_)
  try simp -implicitDefEqProofs only [x_aload, nth_0, nth_s, ldA_a, ldI_i, x_iconst, x_iload, x_dupA, x_dupI, x_nil, g_4_0]
  refine xb_newI h (by decide) (fun z1 v1 h => ?_)
  refine xb_putR h (by decide) (fun z1 h => ?_)
  try simp -implicitDefEqProofs only [x_aload, nth_0, nth_s, ldA_a, ldI_i, x_iconst, x_iload, x_dupA, x_dupI, x_nil, g_4_0]
  refine xb_newI h (by decide) (fun z1 v1 h => ?_)
  refine xb_putR h (by decide) (fun z1 h => ?_)
  rw [x_ret]
  exact hQ _ _ h.hn h.hs h.fr ⟨h.ob, h.sg⟩
theorem k_lines  (hn : zn z = b + 1) (hc : Cel z v b (3, 0, [], [])) (hQ : ∀ z' v', zn z' = b + 7 → zs z' = zs z + 96 → Fr b z v z' v' → Seg z' v' b (linesT b) → Q z' v' (.inl 0)) : EvM TB (d + 1) 5 z v [.inr (.inl b)] Q := by
  have h := Bd_0 hn hc
  rw [e_ev]
  simp -implicitDefEqProofs only [lay_a, lay_i, lay_n]
  rw [g_5_0]
  simp -implicitDefEqProofs only [x_aload, nth_0, nth_s, ldA_a, ldI_i, x_iconst, x_iload, x_dupA, x_dupI, x_nil, g_5_0]
  refine xb_obj h (by decide) ?_
  try simp -implicitDefEqProofs only [x_aload, nth_0, nth_s, ldA_a, ldI_i, x_iconst, x_iload, x_dupA, x_dupI, x_nil, g_5_0]
  refine xb_newI h (by decide) (fun z1 v1 h => ?_)
  refine xb_putR h (by decide) (fun z1 h => ?_)
  try simp -implicitDefEqProofs only [x_aload, nth_0, nth_s, ldA_a, ldI_i, x_iconst, x_iload, x_dupA, x_dupI, x_nil, g_5_0]
  refine xb_newI h (by decide) (fun z1 v1 h => ?_)
  refine xb_putR h (by decide) (fun z1 h => ?_)
  try simp -implicitDefEqProofs only [x_aload, nth_0, nth_s, ldA_a, ldI_i, x_iconst, x_iload, x_dupA, x_dupI, x_nil, g_5_0]
  refine xb_newI h (by decide) (fun z1 v1 h => ?_)
  refine xb_putR h (by decide) (fun z1 h => ?_)
  try simp -implicitDefEqProofs only [x_aload, nth_0, nth_s, ldA_a, ldI_i, x_iconst, x_iload, x_dupA, x_dupI, x_nil, g_5_0]
  refine xb_newI h (by decide) (fun z1 v1 h => ?_)
  refine xb_putR h (by decide) (fun z1 h => ?_)
  try simp -implicitDefEqProofs only [x_aload, nth_0, nth_s, ldA_a, ldI_i, x_iconst, x_iload, x_dupA, x_dupI, x_nil, g_5_0]
  refine xb_newI h (by decide) (fun z1 v1 h => ?_)
  refine xb_putR h (by decide) (fun z1 h => ?_)
  try simp -implicitDefEqProofs only [x_aload, nth_0, nth_s, ldA_a, ldI_i, x_iconst, x_iload, x_dupA, x_dupI, x_nil, g_5_0]
  refine xb_newI h (by decide) (fun z1 v1 h => ?_)
  refine xb_putR h (by decide) (fun z1 h => ?_)
  rw [x_ret]
  exact hQ _ _ h.hn h.hs h.fr ⟨h.ob, h.sg⟩
theorem k_tokens  (hn : zn z = b + 1) (hc : Cel z v b (9, 0, [], [])) (hQ : ∀ z' v', zn z' = b + 3 → zs z' = zs z + 802 → Fr b z v z' v' → Seg z' v' b (tokT b) → Q z' v' (.inl 0)) : EvM TB (d + 1) 10 z v [.inr (.inl b)] Q := by
  have h := Bd_0 hn hc
  rw [e_ev]
  simp -implicitDefEqProofs only [lay_a, lay_i, lay_n]
  rw [g_10_0]
  simp -implicitDefEqProofs only [x_aload, nth_0, nth_s, ldA_a, ldI_i, x_iconst, x_iload, x_dupA, x_dupI, x_nil, g_10_0]
  refine xb_obj h (by decide) ?_
  try simp -implicitDefEqProofs only [x_aload, nth_0, nth_s, ldA_a, ldI_i, x_iconst, x_iload, x_dupA, x_dupI, x_nil, g_10_0]
  refine xb_newI h (by decide) (fun z1 v1 h => ?_)
  refine xb_putR h (by decide) (fun z1 h => ?_)
  try simp -implicitDefEqProofs only [x_aload, nth_0, nth_s, ldA_a, ldI_i, x_iconst, x_iload, x_dupA, x_dupI, x_nil, g_10_0]
  refine xb_newI h (by decide) (fun z1 v1 h => ?_)
  refine xb_putR h (by decide) (fun z1 h => ?_)
  rw [x_ret]
  exact hQ _ _ h.hn h.hs h.fr ⟨h.ob, h.sg⟩
theorem k_row {c : Nat} {lo hi : Int} (hcc : (c : Int) ≤ 60000000) (hn : zn z = b + 1) (hc : Cel z v b (5, 0, [], [])) (hQ : ∀ z' v', zn z' = b + 2 → zs z' = zs z + c → Fr b z v z' v' → Seg z' v' b (rowT b c lo hi) → Q z' v' (.inl 0)) : EvM TB (d + 1) 7 z v [.inr (.inl b), .inl (c : Int), .inl lo, .inl hi] Q := by
  have h := Bd_0 hn hc
  rw [e_ev]
  simp -implicitDefEqProofs only [lay_a, lay_i, lay_n]
  rw [g_7_0]
  simp -implicitDefEqProofs only [x_aload, nth_0, nth_s, ldA_a, ldI_i, x_iconst, x_iload, x_dupA, x_nil]
  refine xb_obj h (by decide) ?_
  simp -implicitDefEqProofs only [x_aload, nth_0, nth_s, ldA_a, ldI_i, x_iconst, x_iload, x_dupA, x_nil]
  rw [x_max]
  refine ⟨rfl, ?_⟩
  rw [Int.max_eq_left (by omega)]
  refine xb_newI h ⟨by omega, hcc⟩ (fun z1 v1 h => ?_)
  refine xb_putR h (by decide) (fun z1 h => ?_)
  simp -implicitDefEqProofs only [x_aload, nth_0, nth_s, ldA_a, ldI_i, x_iconst, x_iload, x_dupA, x_nil]
  refine xb_putI h (by decide) (fun v1 h => ?_)
  simp -implicitDefEqProofs only [x_aload, nth_0, nth_s, ldA_a, ldI_i, x_iconst, x_iload, x_dupA, x_nil]
  refine xb_putI h (by decide) (fun v1 h => ?_)
  rw [x_ret]
  rw [Int.toNat_natCast] at h
  exact hQ _ _ h.hn (by rw [h.hs]; omega) h.fr ⟨h.ob, h.sg⟩
end KK
