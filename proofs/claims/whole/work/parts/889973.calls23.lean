/-! ===== calls that change one thing ===== -/
set_option maxHeartbeats 1000000
section CL
variable {z : xZ} {v y y' : xV}
theorem c_sum (hz : Lay z) (hI : Inv v) {p o q : Int} : CallOk 146 294 [.inl p, .inl o, .inl q] z v := by
  obtain ⟨n, a1, a2, a3, a4⟩ := hI.sm
  have a2 : v 49 6 = (n : Int) := a2
  have a4 : v 49 7 = sumW (v 245) n := a4
  unfold CallOk
  refine Eq.mpr (e_sum hz (by omega) (by omega)) ?_
  rw [a2]
  by_cases c0 : p = -1
  · rw [if_pos c0]
    have e : up (up v 49 6 0) 49 7 0 208 59 = (n : Int) := by rw [up_off _ _ _ (by decide), up_off _ _ _ (by decide), a3]
    refine ⟨⟨_, rfl⟩, rom_rf hz, by rw [up_off _ _ _ (by decide), up_off _ _ _ (by decide)], Eq.mpr (m_sum hz (by rw [e]; omega) (by rw [e]; omega)) ?_⟩
    rw [if_pos c0]
    refine ⟨rfl, rfl, Inv_Sm hI (fun a k s ne => ?_) ⟨0, by decide, ?_, ?_, ?_⟩, ?_⟩
    · have b := sB_00 (sIn_b s)
      unfold sSm at ne
      rw [up_ap, if_neg (by omega), up_ap, if_neg (by omega), up_ap, if_neg (by omega), up_ap, if_neg (by omega)]
    · show up _ 208 59 0 49 6 = 0
      rw [up_off _ _ _ (by decide), up_off _ _ _ (by decide), up_ap, if_neg (by decide), up_sm]
    · rw [up_sm]; rfl
    · show up _ 208 59 0 49 7 = 0
      rw [up_off _ _ _ (by decide), up_off _ _ _ (by decide), up_sm]
    · rw [up_off _ _ _ (by decide), up_off _ _ _ (by decide), up_off _ _ _ (by decide), up_off _ _ _ (by decide)]
  · rw [if_neg c0]
    by_cases c1 : (0 ≤ p ∧ p ≤ 99) ∧ (0 ≤ o ∧ o ≤ 15) ∧ (0 ≤ q ∧ q ≤ 15) ∧ (n : Int) < 8
    · rw [if_pos c1]
      generalize hx : 256 * p + 16 * o + q = x
      have e : up (up v 49 7 (wr (v 49 7 + x))) 49 6 ((n : Int) + 1) 208 59 = (n : Int) := by rw [up_off _ _ _ (by decide), up_off _ _ _ (by decide), a3]
      refine ⟨⟨_, rfl⟩, rom_rf hz, by rw [up_off _ _ _ (by decide), up_off _ _ _ (by decide)], Eq.mpr (m_sum hz (by rw [e]; omega) (by rw [e]; omega)) ?_⟩
      rw [e, if_neg c0, if_pos c1, Int.toNat_natCast, hx]
      have e5 : up (up (up (up (up v 49 7 (wr (v 49 7 + x))) 49 6 ((n : Int) + 1)) 208 0 0) 245 n x) 208 59 ((n : Int) + 1) 245 = udR (v 245) n x := by rw [up_off _ _ _ (by decide), up_row, up_off _ _ _ (by decide), up_off _ _ _ (by decide), up_off _ _ _ (by decide)]
      refine ⟨rfl, rfl, Inv_Sm hI (fun a k s ne => ?_) ⟨n + 1, by omega, ?_, ?_, ?_⟩, ?_⟩
      · have b := sB_00 (sIn_b s)
        unfold sSm at ne
        rw [up_ap, if_neg (by omega), up_ap, if_neg (by omega), up_ap, if_neg (by omega), up_ap, if_neg (by omega), up_ap, if_neg (by omega)]
      · show up _ 208 59 _ 49 6 = _
        rw [up_off _ _ _ (by decide), up_off _ _ _ (by decide), up_off _ _ _ (by decide), up_sm]; rfl
      · rw [up_sm]; rfl
      · rw [e5]
        show up _ 208 59 _ 49 7 = wr (sumW (udR (v 245) n x) n + udR (v 245) n x n)
        rw [up_off _ _ _ (by decide), up_off _ _ _ (by decide), up_off _ _ _ (by decide), up_ap, if_neg (by decide), up_sm, a4, sumW_c (f := v 245) (g := udR (v 245) n x) n (fun k hk => by unfold udR; rw [if_neg (by omega)])]
        unfold udR
        rw [if_pos rfl]
      · rw [up_off _ _ _ (by decide), up_off _ _ _ (by decide), up_off _ _ _ (by decide), up_off _ _ _ (by decide), up_off _ _ _ (by decide)]
    · rw [if_neg c1]
      refine ⟨⟨_, rfl⟩, rom_rf hz, rfl, Eq.mpr (m_sum hz (by omega) (by omega)) ?_⟩
      rw [if_neg c0, a3, if_neg c1]
      exact ⟨rfl, rfl, Inv_told hI, up_off _ _ _ (by decide)⟩
theorem c_finds (hz : Lay z) (hI : Inv v) {s x : Int} : CallOk 107 268 [.inl s, .inl x] z v := by
  obtain ⟨a1, a2⟩ := hI.fi
  have a1 : ∀ k, k < 8 → v 50 k = v 234 k ∧ 0 ≤ v 234 k ∧ v 234 k ≤ 99 := a1
  unfold CallOk
  refine Eq.mpr (e_finds hz) ?_
  by_cases c : (1 ≤ s ∧ s ≤ 7) ∧ (0 ≤ x ∧ x ≤ 99)
  · rw [if_pos c]
    refine ⟨⟨_, rfl⟩, rom_rf hz, up_off _ _ _ (by decide), Eq.mpr (m_finds hz) ?_⟩
    rw [if_pos c]
    refine ⟨rfl, rfl, Inv_Fi hI (fun a k t ne => ?_) ⟨fun k hk => ?_, ?_⟩, ?_⟩
    · have b := sB_00 (sIn_b t)
      unfold sFi at ne
      rw [up_ap, if_neg (by omega), up_ap, if_neg (by omega), up_ap, if_neg (by omega)]
    · show up _ 234 s.toNat x 50 k = up _ 234 s.toNat x 234 k ∧ _
      rw [up_off _ _ _ (show (50 : Nat) ≠ 234 by decide), up_off _ _ _ (show (50 : Nat) ≠ 208 by decide), up_ap, up_ap]
      by_cases ck : k = s.toNat
      · rw [if_pos ⟨rfl, ck⟩, if_pos ⟨rfl, ck⟩]
        exact ⟨rfl, c.2⟩
      · rw [if_neg (fun q => ck q.2), if_neg (fun q => ck q.2), up_off _ _ _ (by decide), up_off _ _ _ (by decide)]
        exact a1 k hk
    · rw [up_ap, if_neg (by omega), up_off _ _ _ (by decide), up_off _ _ _ (by decide), a2]
    · rw [up_off _ _ _ (by decide), up_off _ _ _ (by decide), up_off _ _ _ (by decide)]
  · rw [if_neg c]
    refine ⟨⟨_, rfl⟩, rom_rf hz, rfl, Eq.mpr (m_finds hz) ?_⟩
    rw [if_neg c]
    exact ⟨rfl, rfl, Inv_told hI, up_off _ _ _ (by decide)⟩
theorem tell_off {a r b : Nat} (h : b ≠ a) : tellV v a r b = v b := by
  unfold tellV
  funext k
  rw [if_neg h]
theorem c_wish (hz : Lay z) (hI : Inv v) {w i x : Int} : CallOk 120 275 [.inl w, .inl i, .inl x] z v := by
  obtain ⟨r, hr⟩ := hI.wi
  have hr : ∀ j, j < 8 → wok (r j) ∧ v 237 j = (r j : Int) - 123 ∧ ∀ k, k < 4 → v (61 + j) k = (rk (r j) k : Int) := hr
  unfold CallOk
  refine Eq.mpr (e_wish hz) ?_
  by_cases c : (0 ≤ w ∧ w ≤ 1) ∧ (0 ≤ i ∧ i ≤ 3)
  · rw [if_pos c]
    by_cases c2 : 0 ≤ x ∧ wok x.toNat
    · rw [if_pos c2]
      have hJ : 4 * w.toNat + i.toNat < 8 := by omega
      refine ⟨⟨_, rfl⟩, rom_rf hz, tell_off (by omega), Eq.mpr (m_wish hz) ?_⟩
      rw [if_pos c, if_pos c2]
      generalize 4 * w.toNat + i.toNat = J at hJ ⊢
      refine ⟨rfl, rfl, Inv_Wi hI (fun a k t ne => ?_) ⟨fun j => if j = J then x.toNat else r j, fun j hj => ?_⟩, ?_⟩
      · have b := sB_00 (sIn_b t)
        unfold sWi at ne
        rw [up_ap, if_neg (by omega), up_ap, if_neg (by omega), tell_off (by omega)]
      · show wok (if j = J then x.toNat else r j) ∧ up _ 237 J (x - 123) 237 j = ((if j = J then x.toNat else r j : Nat) : Int) - 123 ∧ ∀ k, k < 4 → up _ 237 J (x - 123) (61 + j) k = (rk (if j = J then x.toNat else r j) k : Int)
        have hu : ∀ k, up (up (tellV v (61 + J) x.toNat) 208 0 0) 237 J (x - 123) (61 + j) k = tellV v (61 + J) x.toNat (61 + j) k := fun k => by rw [up_off _ _ _ (by omega), up_off _ _ _ (by omega)]
        by_cases cj : j = J
        · subst cj
          rw [if_pos rfl, up_sm]
          refine ⟨c2.2, by omega, fun k hk => ?_⟩
          rw [hu k]
          unfold tellV
          rw [if_pos rfl, if_pos hk]
        · rw [if_neg cj, up_ap, if_neg (fun q => cj q.2), up_off _ _ _ (by decide), tell_off (by omega)]
          refine ⟨(hr j hj).1, (hr j hj).2.1, fun k hk => ?_⟩
          rw [hu k, tell_off (by omega)]
          exact (hr j hj).2.2 k hk
      · rw [up_off _ _ _ (by decide), up_off _ _ _ (by decide), tell_off (by omega)]
    · rw [if_neg c2]
      refine ⟨⟨_, rfl⟩, rom_rf hz, rfl, Eq.mpr (m_wish hz) ?_⟩
      rw [if_pos c, if_neg c2]
      exact ⟨rfl, rfl, Inv_told hI, up_off _ _ _ (by decide)⟩
  · rw [if_neg c]
    refine ⟨⟨_, rfl⟩, rom_rf hz, rfl, Eq.mpr (m_wish hz) ?_⟩
    rw [if_neg c]
    exact ⟨rfl, rfl, Inv_told hI, up_off _ _ _ (by decide)⟩
end CL
