/-! ===== calls that change one thing ===== -/
set_option maxHeartbeats 1000000
section CL
variable {z : xZ} {v y y' : xV}
theorem c_part (hz : Lay z) (hI : Inv v) {x : Int} : CallOk 111 272 [.inl x] z v := by
  obtain ⟨n, a1, a2, a3, a4⟩ := hI.pt
  have a2 : v 51 3 = (n : Int) := a2
  have a4 : ∀ i, i < n → v 52 i = v 235 i ∧ (1 : Int) ≤ v 235 i ∧ v 235 i ≤ 99 := a4
  obtain ⟨k1, k2, k3, k4, k5, k6, k7, k8⟩ := hI.cn.2.2.2.2.2.2.2.2.1
  unfold CallOk
  refine Eq.mpr (e_part hz (by omega) (by omega)) ?_
  rw [k1, k2, a2]
  by_cases c0 : x = -1
  · rw [if_pos c0]
    have e : up v 51 3 0 208 46 = (n : Int) := (congrFun (up_off _ _ _ (by decide)) _).trans a3
    refine ⟨⟨_, rfl⟩, rom_rf hz, up_off _ _ _ (by decide), Eq.mpr (m_part hz (by rw [e]; omega) (by rw [e]; omega)) ?_⟩
    rw [if_pos c0]
    refine ⟨rfl, rfl, Inv_Pt hI (fun a k s ne => ?_) ⟨0, by decide, ?_, ?_, fun i hi => absurd hi (by omega)⟩, ?_⟩
    · have b := sB_00 (sIn_b s)
      unfold sPt at ne
      rw [up_ap, if_neg (by omega), up_ap, if_neg (by omega), up_ap, if_neg (by omega)]
    · show up _ 208 46 0 51 3 = 0
      rw [up_off _ _ _ (by decide), up_off _ _ _ (by decide), up_sm]
    · rw [up_sm]; rfl
    · rw [up_off _ _ _ (by decide), up_off _ _ _ (by decide), up_off _ _ _ (by decide)]
  · rw [if_neg c0]
    by_cases c1 : ((1 : Int) ≤ x ∧ x ≤ 99) ∧ (n : Int) < 12
    · rw [if_pos c1, Int.toNat_natCast, show (51 + 1 : Nat) = 52 from rfl]
      have e : up (up v 52 n x) 51 3 ((n : Int) + 1) 208 46 = (n : Int) := by rw [up_off _ _ _ (by decide), up_off _ _ _ (by decide), a3]
      refine ⟨⟨_, rfl⟩, rom_rf hz, by rw [up_off _ _ _ (by decide), up_off _ _ _ (by decide)], Eq.mpr (m_part hz (by rw [e]; omega) (by rw [e]; omega)) ?_⟩
      rw [e, if_neg c0, if_pos c1, Int.toNat_natCast]
      refine ⟨rfl, rfl, Inv_Pt hI (fun a k s ne => ?_) ⟨n + 1, by omega, ?_, ?_, fun i hi => ?_⟩, ?_⟩
      · have b := sB_00 (sIn_b s)
        unfold sPt at ne
        rw [up_ap, if_neg (by omega), up_ap, if_neg (by omega), up_ap, if_neg (by omega), up_ap, if_neg (by omega), up_ap, if_neg (by omega)]
      · show up _ 208 46 _ 51 3 = _
        rw [up_off _ _ _ (by decide), up_off _ _ _ (by decide), up_off _ _ _ (by decide), up_sm]; rfl
      · rw [up_sm]; rfl
      · have eA : up (up (up (up (up v 52 n x) 51 3 ((n : Int) + 1)) 208 0 0) 235 n x) 208 46 ((n : Int) + 1) 52 = udR (v 52) n x := by rw [up_off _ _ _ (by decide), up_off _ _ _ (by decide), up_off _ _ _ (by decide), up_off _ _ _ (by decide), up_row]
        have eB : up (up (up (up (up v 52 n x) 51 3 ((n : Int) + 1)) 208 0 0) 235 n x) 208 46 ((n : Int) + 1) 235 = udR (v 235) n x := by rw [up_off _ _ _ (by decide), up_row, up_off _ _ _ (by decide), up_off _ _ _ (by decide), up_off _ _ _ (by decide)]
        show up (up (up (up (up v 52 n x) 51 3 ((n : Int) + 1)) 208 0 0) 235 n x) 208 46 ((n : Int) + 1) 52 i = up (up (up (up (up v 52 n x) 51 3 ((n : Int) + 1)) 208 0 0) 235 n x) 208 46 ((n : Int) + 1) 235 i ∧ (1 : Int) ≤ up (up (up (up (up v 52 n x) 51 3 ((n : Int) + 1)) 208 0 0) 235 n x) 208 46 ((n : Int) + 1) 235 i ∧ up (up (up (up (up v 52 n x) 51 3 ((n : Int) + 1)) 208 0 0) 235 n x) 208 46 ((n : Int) + 1) 235 i ≤ 99
        rw [eA, eB]
        unfold udR
        by_cases ci : i = n
        · rw [if_pos ci, if_pos ci]
          exact ⟨rfl, c1.1⟩
        · rw [if_neg ci, if_neg ci]
          exact a4 i (by omega)
      · rw [up_off _ _ _ (by decide), up_off _ _ _ (by decide), up_off _ _ _ (by decide), up_off _ _ _ (by decide), up_off _ _ _ (by decide)]
    · rw [if_neg c1]
      refine ⟨⟨_, rfl⟩, rom_rf hz, rfl, Eq.mpr (m_part hz (by omega) (by omega)) ?_⟩
      rw [if_neg c0, a3, if_neg c1]
      exact ⟨rfl, rfl, Inv_told hI, up_off _ _ _ (by decide)⟩
theorem c_height (hz : Lay z) (hI : Inv v) {x : Int} : CallOk 135 286 [.inl x] z v := by
  obtain ⟨n, a1, a2, a3, a4⟩ := hI.ht
  have a2 : v 53 3 = (n : Int) := a2
  have a4 : ∀ i, i < n → v 54 i = v 242 i ∧ (0 : Int) ≤ v 242 i ∧ v 242 i ≤ 99 := a4
  obtain ⟨k1, k2, k3, k4, k5, k6, k7, k8⟩ := hI.cn.2.2.2.2.2.2.2.2.1
  unfold CallOk
  refine Eq.mpr (e_height hz (by omega) (by omega)) ?_
  rw [k3, k4, a2]
  by_cases c0 : x = -1
  · rw [if_pos c0]
    have e : up v 53 3 0 208 54 = (n : Int) := (congrFun (up_off _ _ _ (by decide)) _).trans a3
    refine ⟨⟨_, rfl⟩, rom_rf hz, up_off _ _ _ (by decide), Eq.mpr (m_height hz (by rw [e]; omega) (by rw [e]; omega)) ?_⟩
    rw [if_pos c0]
    refine ⟨rfl, rfl, Inv_Ht hI (fun a k s ne => ?_) ⟨0, by decide, ?_, ?_, fun i hi => absurd hi (by omega)⟩, ?_⟩
    · have b := sB_00 (sIn_b s)
      unfold sHt at ne
      rw [up_ap, if_neg (by omega), up_ap, if_neg (by omega), up_ap, if_neg (by omega)]
    · show up _ 208 54 0 53 3 = 0
      rw [up_off _ _ _ (by decide), up_off _ _ _ (by decide), up_sm]
    · rw [up_sm]; rfl
    · rw [up_off _ _ _ (by decide), up_off _ _ _ (by decide), up_off _ _ _ (by decide)]
  · rw [if_neg c0]
    by_cases c1 : ((0 : Int) ≤ x ∧ x ≤ 99) ∧ (n : Int) < 12
    · rw [if_pos c1, Int.toNat_natCast, show (53 + 1 : Nat) = 54 from rfl]
      have e : up (up v 54 n x) 53 3 ((n : Int) + 1) 208 54 = (n : Int) := by rw [up_off _ _ _ (by decide), up_off _ _ _ (by decide), a3]
      refine ⟨⟨_, rfl⟩, rom_rf hz, by rw [up_off _ _ _ (by decide), up_off _ _ _ (by decide)], Eq.mpr (m_height hz (by rw [e]; omega) (by rw [e]; omega)) ?_⟩
      rw [e, if_neg c0, if_pos c1, Int.toNat_natCast]
      refine ⟨rfl, rfl, Inv_Ht hI (fun a k s ne => ?_) ⟨n + 1, by omega, ?_, ?_, fun i hi => ?_⟩, ?_⟩
      · have b := sB_00 (sIn_b s)
        unfold sHt at ne
        rw [up_ap, if_neg (by omega), up_ap, if_neg (by omega), up_ap, if_neg (by omega), up_ap, if_neg (by omega), up_ap, if_neg (by omega)]
      · show up _ 208 54 _ 53 3 = _
        rw [up_off _ _ _ (by decide), up_off _ _ _ (by decide), up_off _ _ _ (by decide), up_sm]; rfl
      · rw [up_sm]; rfl
      · have eA : up (up (up (up (up v 54 n x) 53 3 ((n : Int) + 1)) 208 0 0) 242 n x) 208 54 ((n : Int) + 1) 54 = udR (v 54) n x := by rw [up_off _ _ _ (by decide), up_off _ _ _ (by decide), up_off _ _ _ (by decide), up_off _ _ _ (by decide), up_row]
        have eB : up (up (up (up (up v 54 n x) 53 3 ((n : Int) + 1)) 208 0 0) 242 n x) 208 54 ((n : Int) + 1) 242 = udR (v 242) n x := by rw [up_off _ _ _ (by decide), up_row, up_off _ _ _ (by decide), up_off _ _ _ (by decide), up_off _ _ _ (by decide)]
        show up (up (up (up (up v 54 n x) 53 3 ((n : Int) + 1)) 208 0 0) 242 n x) 208 54 ((n : Int) + 1) 54 i = up (up (up (up (up v 54 n x) 53 3 ((n : Int) + 1)) 208 0 0) 242 n x) 208 54 ((n : Int) + 1) 242 i ∧ (0 : Int) ≤ up (up (up (up (up v 54 n x) 53 3 ((n : Int) + 1)) 208 0 0) 242 n x) 208 54 ((n : Int) + 1) 242 i ∧ up (up (up (up (up v 54 n x) 53 3 ((n : Int) + 1)) 208 0 0) 242 n x) 208 54 ((n : Int) + 1) 242 i ≤ 99
        rw [eA, eB]
        unfold udR
        by_cases ci : i = n
        · rw [if_pos ci, if_pos ci]
          exact ⟨rfl, c1.1⟩
        · rw [if_neg ci, if_neg ci]
          exact a4 i (by omega)
      · rw [up_off _ _ _ (by decide), up_off _ _ _ (by decide), up_off _ _ _ (by decide), up_off _ _ _ (by decide), up_off _ _ _ (by decide)]
    · rw [if_neg c1]
      refine ⟨⟨_, rfl⟩, rom_rf hz, rfl, Eq.mpr (m_height hz (by omega) (by omega)) ?_⟩
      rw [if_neg c0, a3, if_neg c1]
      exact ⟨rfl, rfl, Inv_told hI, up_off _ _ _ (by decide)⟩
theorem c_third (hz : Lay z) (hI : Inv v) {x : Int} : CallOk 142 291 [.inl x] z v := by
  obtain ⟨n, a1, a2, a3, a4⟩ := hI.th
  have a2 : v 55 3 = (n : Int) := a2
  have a4 : ∀ i, i < n → v 56 i = v 243 i ∧ (1 : Int) ≤ v 243 i ∧ v 243 i ≤ 60 := a4
  obtain ⟨k1, k2, k3, k4, k5, k6, k7, k8⟩ := hI.cn.2.2.2.2.2.2.2.2.1
  unfold CallOk
  refine Eq.mpr (e_third hz (by omega) (by omega)) ?_
  rw [k5, k6, a2]
  by_cases c0 : x = -1
  · rw [if_pos c0]
    have e : up v 55 3 0 208 56 = (n : Int) := (congrFun (up_off _ _ _ (by decide)) _).trans a3
    refine ⟨⟨_, rfl⟩, rom_rf hz, up_off _ _ _ (by decide), Eq.mpr (m_third hz (by rw [e]; omega) (by rw [e]; omega)) ?_⟩
    rw [if_pos c0]
    refine ⟨rfl, rfl, Inv_Th hI (fun a k s ne => ?_) ⟨0, by decide, ?_, ?_, fun i hi => absurd hi (by omega)⟩, ?_⟩
    · have b := sB_00 (sIn_b s)
      unfold sTh at ne
      rw [up_ap, if_neg (by omega), up_ap, if_neg (by omega), up_ap, if_neg (by omega)]
    · show up _ 208 56 0 55 3 = 0
      rw [up_off _ _ _ (by decide), up_off _ _ _ (by decide), up_sm]
    · rw [up_sm]; rfl
    · rw [up_off _ _ _ (by decide), up_off _ _ _ (by decide), up_off _ _ _ (by decide)]
  · rw [if_neg c0]
    by_cases c1 : ((1 : Int) ≤ x ∧ x ≤ 60) ∧ (n : Int) < 9
    · rw [if_pos c1, Int.toNat_natCast, show (55 + 1 : Nat) = 56 from rfl]
      have e : up (up v 56 n x) 55 3 ((n : Int) + 1) 208 56 = (n : Int) := by rw [up_off _ _ _ (by decide), up_off _ _ _ (by decide), a3]
      refine ⟨⟨_, rfl⟩, rom_rf hz, by rw [up_off _ _ _ (by decide), up_off _ _ _ (by decide)], Eq.mpr (m_third hz (by rw [e]; omega) (by rw [e]; omega)) ?_⟩
      rw [e, if_neg c0, if_pos c1, Int.toNat_natCast]
      refine ⟨rfl, rfl, Inv_Th hI (fun a k s ne => ?_) ⟨n + 1, by omega, ?_, ?_, fun i hi => ?_⟩, ?_⟩
      · have b := sB_00 (sIn_b s)
        unfold sTh at ne
        rw [up_ap, if_neg (by omega), up_ap, if_neg (by omega), up_ap, if_neg (by omega), up_ap, if_neg (by omega), up_ap, if_neg (by omega)]
      · show up _ 208 56 _ 55 3 = _
        rw [up_off _ _ _ (by decide), up_off _ _ _ (by decide), up_off _ _ _ (by decide), up_sm]; rfl
      · rw [up_sm]; rfl
      · have eA : up (up (up (up (up v 56 n x) 55 3 ((n : Int) + 1)) 208 0 0) 243 n x) 208 56 ((n : Int) + 1) 56 = udR (v 56) n x := by rw [up_off _ _ _ (by decide), up_off _ _ _ (by decide), up_off _ _ _ (by decide), up_off _ _ _ (by decide), up_row]
        have eB : up (up (up (up (up v 56 n x) 55 3 ((n : Int) + 1)) 208 0 0) 243 n x) 208 56 ((n : Int) + 1) 243 = udR (v 243) n x := by rw [up_off _ _ _ (by decide), up_row, up_off _ _ _ (by decide), up_off _ _ _ (by decide), up_off _ _ _ (by decide)]
        show up (up (up (up (up v 56 n x) 55 3 ((n : Int) + 1)) 208 0 0) 243 n x) 208 56 ((n : Int) + 1) 56 i = up (up (up (up (up v 56 n x) 55 3 ((n : Int) + 1)) 208 0 0) 243 n x) 208 56 ((n : Int) + 1) 243 i ∧ (1 : Int) ≤ up (up (up (up (up v 56 n x) 55 3 ((n : Int) + 1)) 208 0 0) 243 n x) 208 56 ((n : Int) + 1) 243 i ∧ up (up (up (up (up v 56 n x) 55 3 ((n : Int) + 1)) 208 0 0) 243 n x) 208 56 ((n : Int) + 1) 243 i ≤ 60
        rw [eA, eB]
        unfold udR
        by_cases ci : i = n
        · rw [if_pos ci, if_pos ci]
          exact ⟨rfl, c1.1⟩
        · rw [if_neg ci, if_neg ci]
          exact a4 i (by omega)
      · rw [up_off _ _ _ (by decide), up_off _ _ _ (by decide), up_off _ _ _ (by decide), up_off _ _ _ (by decide), up_off _ _ _ (by decide)]
    · rw [if_neg c1]
      refine ⟨⟨_, rfl⟩, rom_rf hz, rfl, Eq.mpr (m_third hz (by omega) (by omega)) ?_⟩
      rw [if_neg c0, a3, if_neg c1]
      exact ⟨rfl, rfl, Inv_told hI, up_off _ _ _ (by decide)⟩
theorem c_spade (hz : Lay z) (hI : Inv v) {x : Int} : CallOk 158 302 [.inl x] z v := by
  obtain ⟨n, a1, a2, a3, a4⟩ := hI.sp
  have a2 : v 57 3 = (n : Int) := a2
  have a4 : ∀ i, i < n → v 58 i = v 246 i ∧ (0 : Int) ≤ v 246 i ∧ v 246 i ≤ 1023 := a4
  obtain ⟨k1, k2, k3, k4, k5, k6, k7, k8⟩ := hI.cn.2.2.2.2.2.2.2.2.1
  unfold CallOk
  refine Eq.mpr (e_spade hz (by omega) (by omega)) ?_
  rw [k7, k8, a2]
  by_cases c0 : x = -1
  · rw [if_pos c0]
    have e : up v 57 3 0 208 61 = (n : Int) := (congrFun (up_off _ _ _ (by decide)) _).trans a3
    refine ⟨⟨_, rfl⟩, rom_rf hz, up_off _ _ _ (by decide), Eq.mpr (m_spade hz (by rw [e]; omega) (by rw [e]; omega)) ?_⟩
    rw [if_pos c0]
    refine ⟨rfl, rfl, Inv_Sp hI (fun a k s ne => ?_) ⟨0, by decide, ?_, ?_, fun i hi => absurd hi (by omega)⟩, ?_⟩
    · have b := sB_00 (sIn_b s)
      unfold sSp at ne
      rw [up_ap, if_neg (by omega), up_ap, if_neg (by omega), up_ap, if_neg (by omega)]
    · show up _ 208 61 0 57 3 = 0
      rw [up_off _ _ _ (by decide), up_off _ _ _ (by decide), up_sm]
    · rw [up_sm]; rfl
    · rw [up_off _ _ _ (by decide), up_off _ _ _ (by decide), up_off _ _ _ (by decide)]
  · rw [if_neg c0]
    by_cases c1 : ((0 : Int) ≤ x ∧ x ≤ 1023) ∧ (n : Int) < 10
    · rw [if_pos c1, Int.toNat_natCast, show (57 + 1 : Nat) = 58 from rfl]
      have e : up (up v 58 n x) 57 3 ((n : Int) + 1) 208 61 = (n : Int) := by rw [up_off _ _ _ (by decide), up_off _ _ _ (by decide), a3]
      refine ⟨⟨_, rfl⟩, rom_rf hz, by rw [up_off _ _ _ (by decide), up_off _ _ _ (by decide)], Eq.mpr (m_spade hz (by rw [e]; omega) (by rw [e]; omega)) ?_⟩
      rw [e, if_neg c0, if_pos c1, Int.toNat_natCast]
      refine ⟨rfl, rfl, Inv_Sp hI (fun a k s ne => ?_) ⟨n + 1, by omega, ?_, ?_, fun i hi => ?_⟩, ?_⟩
      · have b := sB_00 (sIn_b s)
        unfold sSp at ne
        rw [up_ap, if_neg (by omega), up_ap, if_neg (by omega), up_ap, if_neg (by omega), up_ap, if_neg (by omega), up_ap, if_neg (by omega)]
      · show up _ 208 61 _ 57 3 = _
        rw [up_off _ _ _ (by decide), up_off _ _ _ (by decide), up_off _ _ _ (by decide), up_sm]; rfl
      · rw [up_sm]; rfl
      · have eA : up (up (up (up (up v 58 n x) 57 3 ((n : Int) + 1)) 208 0 0) 246 n x) 208 61 ((n : Int) + 1) 58 = udR (v 58) n x := by rw [up_off _ _ _ (by decide), up_off _ _ _ (by decide), up_off _ _ _ (by decide), up_off _ _ _ (by decide), up_row]
        have eB : up (up (up (up (up v 58 n x) 57 3 ((n : Int) + 1)) 208 0 0) 246 n x) 208 61 ((n : Int) + 1) 246 = udR (v 246) n x := by rw [up_off _ _ _ (by decide), up_row, up_off _ _ _ (by decide), up_off _ _ _ (by decide), up_off _ _ _ (by decide)]
        show up (up (up (up (up v 58 n x) 57 3 ((n : Int) + 1)) 208 0 0) 246 n x) 208 61 ((n : Int) + 1) 58 i = up (up (up (up (up v 58 n x) 57 3 ((n : Int) + 1)) 208 0 0) 246 n x) 208 61 ((n : Int) + 1) 246 i ∧ (0 : Int) ≤ up (up (up (up (up v 58 n x) 57 3 ((n : Int) + 1)) 208 0 0) 246 n x) 208 61 ((n : Int) + 1) 246 i ∧ up (up (up (up (up v 58 n x) 57 3 ((n : Int) + 1)) 208 0 0) 246 n x) 208 61 ((n : Int) + 1) 246 i ≤ 1023
        rw [eA, eB]
        unfold udR
        by_cases ci : i = n
        · rw [if_pos ci, if_pos ci]
          exact ⟨rfl, c1.1⟩
        · rw [if_neg ci, if_neg ci]
          exact a4 i (by omega)
      · rw [up_off _ _ _ (by decide), up_off _ _ _ (by decide), up_off _ _ _ (by decide), up_off _ _ _ (by decide), up_off _ _ _ (by decide)]
    · rw [if_neg c1]
      refine ⟨⟨_, rfl⟩, rom_rf hz, rfl, Eq.mpr (m_spade hz (by omega) (by omega)) ?_⟩
      rw [if_neg c0, a3, if_neg c1]
      exact ⟨rfl, rfl, Inv_told hI, up_off _ _ _ (by decide)⟩
end CL
