/-! ===== the image: what its copies hold, in the class ===== -/
set_option maxHeartbeats 1000000
theorem rcp_ok {n t s : Nat} {y : xV} : rcpV n t s y t 3 = y s 3 ∧ ∀ k, k < n → rcpV n t s y (t + 1) k = y (s + 1) k := by
  unfold rcpV
  exact ⟨by rw [up_sm], fun k hk => by rw [up_off _ _ _ (by omega), cp_in0 _ hk]⟩
theorem rcp_fr {n t s a : Nat} {y : xV} (h1 : a ≠ t) (h2 : a ≠ t + 1) : rcpV n t s y a = y a := by
  unfold rcpV
  rw [up_off _ _ _ h1, cp_off _ h2]
theorem rcp_f {n t s f : Nat} {y : xV} (h : f ≠ 3) : rcpV n t s y t f = y t f := by
  unfold rcpV
  rw [up_ap, if_neg (by omega), cp_off _ (by omega)]
theorem wcp_fr {t s a : Nat} {y : xV} (h : a < t + 2 ∨ t + 9 < a) : wcpV t s y a = y a := by
  unfold wcpV
  rw [cp_off _ (by omega), cp_off _ (by omega), cp_off _ (by omega), cp_off _ (by omega), cp_off _ (by omega), cp_off _ (by omega), cp_off _ (by omega), cp_off _ (by omega)]
