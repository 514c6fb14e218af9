/-! ===== calls that change one thing ===== -/
set_option maxHeartbeats 1000000
section CL
variable {z : xZ} {v y y' : xV}
theorem c_end (hz : Lay z) (hI : Inv v) {x : Int} : CallOk 39 187 [.inl x] z v := by
  obtain ⟨len, a1, a2, a3, a4⟩ := hI.tp
  unfold CallOk
  refine Eq.mpr (e_end hz) ?_
  rw [a2]
  by_cases c : 0 ≤ x ∧ x ≤ (len : Int)
  · rw [if_pos c]
    have e : up v 16 8 x 208 10 = (len : Int) := (congrFun (up_off _ _ _ (by decide)) _).trans a3
    refine ⟨⟨_, rfl⟩, rom_rf hz, up_off _ _ _ (by decide), Eq.mpr (m_end hz) ?_⟩
    rw [e, if_pos c]
    refine ⟨rfl, rfl, Inv_Tp hI (fun a k t ne => ?_) ⟨x.toNat, by omega, ?_, ?_, fun k hk => ?_⟩, ?_⟩
    · have b := sB_00 (sIn_b t)
      unfold sTp at ne
      rw [up_ap, if_neg (by omega), up_ap, if_neg (by omega), up_ap, if_neg (by omega)]
    · rw [up_off _ _ _ (by decide), up_off _ _ _ (by decide), up_sm]; omega
    · rw [up_sm]; omega
    · rw [up_off _ _ _ (by decide), up_off _ _ _ (by decide), up_off _ _ _ (by decide), up_off _ _ _ (by decide), up_off _ _ _ (by decide), up_off _ _ _ (by decide)]
      exact a4 k (by omega)
    · rw [up_off _ _ _ (by decide), up_off _ _ _ (by decide), up_off _ _ _ (by decide)]
  · rw [if_neg c]
    refine ⟨⟨_, rfl⟩, rom_rf hz, rfl, Eq.mpr (m_end hz) ?_⟩
    rw [a3, if_neg c]
    exact ⟨rfl, rfl, Inv_told hI, up_off _ _ _ (by decide)⟩
theorem c_feed (hz : Lay z) (hI : Inv v) {a b c e f : Int} : CallOk 37 185 [.inl a, .inl b, .inl c, .inl e, .inl f] z v := by
  obtain ⟨len, a1, a2, a3, a4⟩ := hI.tp
  unfold CallOk
  refine e_feed (d := 98) hz a2 a1 (fun h4 y h1 h2 h3 => ⟨⟨_, rfl⟩, rom_rf hz, h3.1 10 (by decide) (by decide), ?_⟩) (fun h4 => ⟨⟨_, rfl⟩, rom_rf hz, rfl, ?_⟩)
  · have e8 : y 208 = v 208 := h3.1 208 (by decide) (by decide)
    have e14 : y 214 = v 214 := h3.1 214 (by decide) (by decide)
    refine m_feed (d := 98) hz (by rw [e8]; exact a3) a1 (fun _ y' g1 g2 g3 => ?_) (fun q => absurd h4 q)
    have f1 : ∀ b, b ≠ 214 → b ≠ 208 → y' b = y b := fun b b1 b2 => by rw [g3.1 b b1 b2, up_off _ _ _ b2]
    refine ⟨rfl, rfl, Inv_Tp hI (fun a k t ne => ?_) ⟨len + 20, h4, ?_, g2, ?_⟩, (f1 10 (by decide) (by decide)).trans (h3.1 10 (by decide) (by decide))⟩
    · have b := sB_00 (sIn_b t)
      unfold sTp at ne
      by_cases c8 : a = 208
      · subst c8
        rw [g3.2 k (by omega), up_ap, if_neg (by omega), e8]
      · rw [f1 a (by omega) c8]
        by_cases c6 : a = 16
        · subst c6
          exact h3.2 k (by omega)
        · rw [h3.1 a (by omega) c6]
    · rw [f1 16 (by decide) (by decide)]; exact h2
    · rw [f1 133 (by decide) (by decide), h1, g1, e14]
      exact agT_5 a4 a b c e f
  · refine m_feed (d := 98) hz a3 a1 (fun q => absurd q h4) (fun _ => ⟨rfl, rfl, Inv_told hI, up_off _ _ _ (by decide)⟩)
end CL
