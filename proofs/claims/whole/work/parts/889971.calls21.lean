/-! ===== calls that change one thing ===== -/
set_option maxHeartbeats 1000000
section CL
variable {z : xZ} {v y y' : xV}
theorem sB_00 {a k : Nat} (b : sB a k) : ¬ (a = 208 ∧ k = 0) := by
  have c := b.2.1
  clear b
  omega
theorem sB_m {k : Nat} (b : sB 208 k) : k ≠ 0 ∧ k ≠ 11 ∧ k ≠ 12 ∧ k ≠ 13 ∧ k ≠ 14 ∧ k ≠ 23 ∧ k ≠ 24 ∧ k ≠ 25 ∧ k ≠ 27 ∧ k ≠ 28 ∧ k ≠ 29 ∧ k ≠ 65 ∧ k ≠ 67 := by
  have c := b.2.1.resolve_left (fun h => h rfl)
  clear b
  refine ⟨?_, ?_, ?_, ?_, ?_, ?_, ?_, ?_, ?_, ?_, ?_, ?_, ?_⟩ <;> omega
theorem sB_228 {a k : Nat} (b : sB a k) : a ≠ 228 ∧ a ≠ 229 := by
  have c := b.1.2.2.2.2.2.1
  clear b
  omega
theorem Inv_m (hI : Inv y) (h1 : ∀ a, a ≠ 208 → a ≠ 228 → a ≠ 229 → y' a = y a) (h2 : ∀ f, f ≠ 0 → y' 208 f = y 208 f) : Inv y' := Inv_all hI (fun a k s => by
  have b := sIn_b s
  by_cases e : a = 208
  · subst e; exact h2 k (sB_m b).1
  · exact congrFun (h1 a e (sB_228 b).1 (sB_228 b).2) k)
theorem Inv_thk (hI : Inv y) (h : thk y y') : Inv y' := Inv_all hI (fun a k s => by
  have b := sIn_b s
  by_cases e : a = 208
  · subst e; exact h.2.2 k (sB_m b).1
  · by_cases e9 : a = 209
    · subst e9; exact h.1 k (b.2.2.2.1.resolve_left (fun h => h rfl))
    · exact congrFun (h.2.1 a e e9 b.1.2.2.2.2.2.2.1 (sB_228 b).1 (sB_228 b).2) k)
theorem c_of (hz : Lay z) (hI : Inv v) {a b c : Int} (hc : rg c) : CallOk 89 250 [.inl a, .inl b, .inl c] z v := by
  obtain ⟨n, a1, a2, a3, a4⟩ := hI.sc
  obtain ⟨N, nl, l1, l2⟩ := hI.lw
  rw [shv17] at l2
  unfold CallOk
  refine e_of (d := 95) hz l1 l2 (n := n) ⟨a3, rfl⟩ a4 a1 hc (fun y hy => ⟨⟨_, rfl⟩, rom_rf hz, hy 10 (by decide) (by decide), ?_⟩)
  have iy : Inv y := Inv_all hI (fun a k s => congrFun (hy a (sIn_b s).1.1 (sIn_b s).1.2.1) k)
  exact m_of (d := 94) hz l1 (fun a a1 a2 => hy a (by omega) (by omega)) (n := n) (L := v 212) (R := v 209) (B := v 69) ((congrFun (hy 208 (by decide) (by decide)) 6).trans a2) a1 (hy 212 (by decide) (by decide)) ⟨hy 209 (by decide) (by decide), (hy 213 (by decide) (by decide)).trans hI.bk.symm⟩ a4 (fun y' h1 h2 => ⟨rfl, rfl, Inv_m iy h1 h2, (h1 10 (by decide) (by decide) (by decide)).trans (hy 10 (by decide) (by decide))⟩)
theorem c_who (hz : Lay z) (hI : Inv v) {a b : Int} : CallOk 92 252 [.inl a, .inl b] z v := by
  obtain ⟨n, a1, a2, a3, a4⟩ := hI.sc
  obtain ⟨N, nl, l1, l2⟩ := hI.lw
  rw [shv17] at l2
  unfold CallOk
  refine e_who (d := 95) hz l1 l2 hI.cn.2.1 (n := n) ⟨a3, rfl⟩ a4 a1 (fun y hy => ⟨⟨_, rfl⟩, rom_rf hz, hy 10 (by decide) (by decide), ?_⟩)
  have iy : Inv y := Inv_all hI (fun a k s => congrFun (hy a (sIn_b s).1.1 (sIn_b s).1.2.1) k)
  exact m_who (d := 93) hz l1 (fun a a1 a2 => hy a (by omega) (by omega)) (n := n) (L := v 212) (R := v 209) (B := v 69) ((congrFun (hy 208 (by decide) (by decide)) 6).trans a2) a1 (hy 212 (by decide) (by decide)) ⟨hy 209 (by decide) (by decide), (hy 213 (by decide) (by decide)).trans hI.bk.symm⟩ a4 (fun y' h1 h2 => ⟨rfl, rfl, Inv_m iy h1 h2, (h1 10 (by decide) (by decide) (by decide)).trans (hy 10 (by decide) (by decide))⟩)
theorem Inv_123 (hI : Inv v) (hy : ∀ a, (a < 123 ∨ 131 < a) → a ≠ 33 → a ≠ 34 → y a = v a) (h1 : y 123 0 = 1) : Inv y := Inv_all hI (fun a k s => by
  have b := sIn_b s
  by_cases e : a = 123
  · subst e
    obtain rfl : k = 0 := b.2.2.1.resolve_left (fun h => h rfl)
    rw [h1, hI.cn.2.2.2.2.2.2.2.1]
  · have r := b.1.2.2.1
    exact congrFun (hy a (by clear b s; omega) b.1.1 b.1.2.1) k)
theorem c_goes (hz : Lay z) (hI : Inv v) {a b : Int} : CallOk 94 254 [.inl a, .inl b] z v := by
  obtain ⟨n, a1, a2, a3, a4⟩ := hI.sc
  obtain ⟨N, nl, l1, l2⟩ := hI.lw
  obtain ⟨nd, p1, p2, p3⟩ := hI.pl
  obtain ⟨nt, t0, t1, t2⟩ := hI.tb
  rw [shv17] at l2 p3 t2
  rw [a2] at p2
  have h123 : v 123 0 = 1 := hI.cn.2.2.2.2.2.2.2.1
  unfold CallOk
  refine e_goes (d := 92) hz l1 l2 hI.cn.2.1 (n := n) a1 p2 p3 t0 t2 ⟨a3, rfl⟩ a4 h123 (fun y hy h1 => ⟨⟨_, rfl⟩, rom_rf hz, hy 10 (by decide) (by decide) (by decide), ?_⟩)
  have iy : Inv y := Inv_123 hI hy h1
  have f : ∀ a, 208 ≤ a → y a = v a := fun a ha => hy a (by omega) (by omega) (by omega)
  have e8 := f 208 (by decide)
  exact m_goes (d := 90) hz l1 (fun a a1 a2 => f a (by omega)) (n := n) a1 (by rw [e8]; exact a2) (L := v 212) (R := v 209) (B := v 69) (D := v 224) (E := v 227) (by rw [e8]; exact hI.cn.1) (f 212 (by decide)) p2 (f 224 (by decide)) (by rw [e8]; exact p1) t0 (by rw [e8]; exact t1) (f 227 (by decide)) ⟨f 209 (by decide), (f 213 (by decide)).trans hI.bk.symm⟩ a4 (fun y' h => ⟨rfl, rfl, Inv_thk iy h, (h.2.1 10 (by decide) (by decide) (by decide) (by decide) (by decide)).trans (hy 10 (by decide) (by decide) (by decide))⟩)
theorem c_led (hz : Lay z) (hI : Inv v) {a b c : Int} : CallOk 97 259 [.inl a, .inl b, .inl c] z v := by
  obtain ⟨n, a1, a2, a3, a4⟩ := hI.sc
  obtain ⟨N, nl, l1, l2⟩ := hI.lw
  rw [shv17] at l2
  have h123 : v 123 0 = 1 := hI.cn.2.2.2.2.2.2.2.1
  unfold CallOk
  refine e_led (d := 94) hz l1 l2 hI.cn.2.1 (n := n) a1 ⟨a3, rfl⟩ a4 h123 (fun y hy h1 => ⟨⟨_, rfl⟩, rom_rf hz, hy 10 (by decide) (by decide) (by decide), ?_⟩)
  have iy : Inv y := Inv_123 hI hy h1
  have f : ∀ a, 208 ≤ a → y a = v a := fun a ha => hy a (by omega) (by omega) (by omega)
  have e8 := f 208 (by decide)
  exact m_led (d := 92) hz l1 (fun a a1 a2 => f a (by omega)) (n := n) a1 (by rw [e8]; exact a2) (L := v 212) (R := v 209) (B := v 69) (by rw [e8]; exact hI.cn.1) (f 212 (by decide)) ⟨f 209 (by decide), (f 213 (by decide)).trans hI.bk.symm⟩ a4 (fun y' h => ⟨rfl, rfl, Inv_thk iy h, (h.2.1 10 (by decide) (by decide) (by decide) (by decide) (by decide)).trans (hy 10 (by decide) (by decide) (by decide))⟩)
end CL
