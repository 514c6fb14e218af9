/-! ===== the law's text: places and types of what is put ===== -/
/-- the codes of s from N0 on turn no types into ts -/
def wfP (N0 : Nat) (s : PS) (ts : List Nat) : Prop := N0 ≤ s.2.1 ∧ wfR s.2.2.1 s.2.2.2 (s.2.1 - N0) N0 [] ts
theorem wfR_ext {op ar op' ar' : Nat → Int} : ∀ (m k : Nat) (ts ts' : List Nat), (∀ i, k ≤ i → i < k + m → op i = op' i ∧ ar i = ar' i) → wfR op ar m k ts ts' → wfR op' ar' m k ts ts'
  | 0, _, _, _, _, h => h
  | m + 1, k, ts, ts', he, h => by
    obtain ⟨t1, h1, h2, h3⟩ := h
    obtain ⟨e1, e2⟩ := he k (Nat.le_refl _) (by omega)
    rw [e1, e2] at h1
    exact ⟨t1, h1, h2, wfR_ext m (k + 1) t1 ts' (fun i i1 i2 => he i (by omega) (by omega)) h3⟩
theorem wfR_snoc {op ar : Nat → Int} : ∀ (m k : Nat) (ts t1 t2 : List Nat), wfR op ar m k ts t1 → tst (op (k + m)) (ar (k + m)) t1 t2 → t2.length ≤ 32 → wfR op ar (m + 1) k ts t2
  | 0, k, ts, t1, t2, h, h1, h2 => by
    have h' : ts = t1 := h
    subst h'
    exact ⟨t2, h1, h2, rfl⟩
  | m + 1, k, ts, t1, t2, h, h1, h2 => by
    obtain ⟨t3, g1, g2, g3⟩ := h
    refine ⟨t3, g1, g2, wfR_snoc m (k + 1) t3 t1 t2 g3 ?_ h2⟩
    rw [show k + 1 + m = k + (m + 1) by omega]
    exact h1
theorem wfP_em {N0 : Nat} {s : PS} {ts t1 : List Nat} {o a : Int} (h : wfP N0 s ts) (ht : tst o a ts t1) (hl : t1.length ≤ 32) : wfP N0 (emS s o a) t1 := by
  obtain ⟨h1, h2⟩ := h
  refine ⟨show N0 ≤ s.2.1 + 1 by omega, ?_⟩
  show wfR (udR s.2.2.1 s.2.1 o) (udR s.2.2.2 s.2.1 a) (s.2.1 + 1 - N0) N0 [] t1
  rw [show s.2.1 + 1 - N0 = (s.2.1 - N0) + 1 by omega]
  refine wfR_snoc _ _ _ ts _ (wfR_ext _ _ _ _ (fun i i1 i2 => ?_) h2) ?_ hl
  · rw [udR_ap, udR_ap, if_neg (by omega), if_neg (by omega)]
    exact ⟨rfl, rfl⟩
  · rw [show N0 + (s.2.1 - N0) = s.2.1 by omega, udR_ap, udR_ap, if_pos rfl, if_pos rfl]
    exact ht
theorem wfP_nx {N0 : Nat} {s : PS} {ts : List Nat} (h : wfP N0 s ts) : wfP N0 (nxT s) ts := h
/-- what is left before stays -/
def kpP (N : Nat) (s r : PS) : Prop := ∀ k, k < N → r.2.2.1 k = s.2.2.1 k ∧ r.2.2.2 k = s.2.2.2 k
theorem kpP_rf (N : Nat) (s : PS) : kpP N s s := fun _ _ => ⟨rfl, rfl⟩
theorem kpP_tr {N : Nat} {s r q : PS} (h : kpP N s r) (k : kpP N r q) : kpP N s q := fun i hi => ⟨(k i hi).1.trans (h i hi).1, (k i hi).2.trans (h i hi).2⟩
theorem kpP_em {N : Nat} {s : PS} (h : N ≤ s.2.1) {o a : Int} : kpP N s (emS s o a) := fun k hk => by
  show udR s.2.2.1 s.2.1 o k = _ ∧ udR s.2.2.2 s.2.1 a k = _
  rw [udR_ap, udR_ap, if_neg (by omega), if_neg (by omega)]
  exact ⟨rfl, rfl⟩
theorem kpP_nx (N : Nat) (s : PS) : kpP N s (nxT s) := fun _ _ => ⟨rfl, rfl⟩
section TY
variable {K : Nat → Int} {N0 : Nat}
theorem unS_ty {s : PS} {ts : List Nat} (hl : ts.length ≤ 31) (hw : wfP N0 s ts) (h : (unS K s).1 = 0) : ∃ ty, wfP N0 (unS K s).2 (ty :: ts) := by
  unfold unS at h ⊢
  split
  · rename_i c
    exact ⟨_, wfP_nx (wfP_em hw (.inl ⟨rfl, c, rfl⟩) (by rw [List.length_cons]; omega))⟩
  · rename_i c1
    rw [if_neg c1] at h
    split
    · rename_i c
      exact ⟨_, wfP_nx (wfP_em hw (.inr (.inl ⟨rfl, by omega, rfl⟩)) (by rw [List.length_cons]; omega))⟩
    · rename_i c2
      rw [if_neg c2] at h
      exact absurd h (show ¬ (1 : Int) = 0 by decide)
theorem unS_kp {s : PS} {N : Nat} (hN : N ≤ s.2.1) : kpP N s (unS K s).2 := by
  unfold unS
  split
  · exact kpP_tr (kpP_em hN) (kpP_nx _ _)
  · split
    · exact kpP_tr (kpP_em hN) (kpP_nx _ _)
    · exact kpP_rf _ _
/-- products: as many places as codes; one value for one -/
theorem prS_ty : ∀ (m : Nat) (s : PS), (prS K m s).1 = 0 → (prS K m s).2.1 + s.2.1 = s.1 + (prS K m s).2.2.1 ∧ s.2.1 ≤ (prS K m s).2.2.1 ∧ (∀ N, N ≤ s.2.1 → kpP N s (prS K m s).2) ∧ ∀ (N0 : Nat) (x : Nat) (ts : List Nat), ts.length ≤ 30 → wfP N0 s (x :: ts) → ∃ y, wfP N0 (prS K m s).2 (y :: ts)
  | 0, s, _ => ⟨rfl, Nat.le_refl _, fun N _ => kpP_rf N s, fun _ x _ _ hw => ⟨x, hw⟩⟩
  | m + 1, s, h => by
    unfold prS at h ⊢
    split
    · rename_i c
      rw [if_pos c] at h
      split
      · rename_i c2
        rw [if_pos c2] at h
        obtain ⟨a1, a2, a3, a4⟩ := prS_ty m _ h
        obtain ⟨u1, u2⟩ := unS_ok (K := K) c2
        have u1' : (emS (unS K (nxT s)).2 4 0).1 = s.1 + 2 := u1
        have u2' : (emS (unS K (nxT s)).2 4 0).2.1 = s.2.1 + 2 := by show (unS K (nxT s)).2.2.1 + 1 = _; rw [u2]; rfl
        have u3 : (unS K (nxT s)).2.2.1 = s.2.1 + 1 := u2
        refine ⟨by omega, by omega, fun N hN => kpP_tr (kpP_tr (kpP_tr (kpP_nx N s) (unS_kp (show N ≤ (nxT s).2.1 from hN))) (kpP_em (by omega))) (a3 N (by omega)), fun N0 x ts hl hw => ?_⟩
        obtain ⟨ty, w1⟩ := unS_ty (K := K) (ts := x :: ts) (by rw [List.length_cons]; omega) (wfP_nx hw) c2
        exact a4 N0 0 ts hl (wfP_em w1 (.inr (.inr (.inr (.inl ⟨by omega, ty, x, ts, rfl, rfl⟩)))) (by rw [List.length_cons]; omega))
      · rename_i c2
        rw [if_neg c2] at h
        exact absurd h c2
    · rename_i c
      rw [if_neg c] at h
      split
      · rename_i c2
        rw [if_pos c2] at h
        split
        · rename_i c3
          rw [if_pos c3] at h
          split
          · rename_i c4
            rw [if_pos c4] at h
            exact absurd h (show ¬ (2 : Int) = 0 by decide)
          · rename_i c4
            rw [if_neg c4] at h
            obtain ⟨a1, a2, a3, a4⟩ := prS_ty m _ h
            have u1 : (emS (nxT (emS (nxT s) 0 (K (s.1 + 1)))) 5 0).1 = s.1 + 2 := rfl
            have u2 : (emS (nxT (emS (nxT s) 0 (K (s.1 + 1)))) 5 0).2.1 = s.2.1 + 2 := rfl
            refine ⟨by omega, by omega, fun N hN => kpP_tr (kpP_tr (kpP_tr (kpP_tr (kpP_nx N s) (kpP_em (s := nxT s) hN)) (kpP_nx _ _)) (kpP_em (show N ≤ s.2.1 + 1 by omega))) (a3 N (by omega)), fun N0 x ts hl hw => ?_⟩
            have w1 := wfP_em (o := 0) (a := K (s.1 + 1)) (wfP_nx hw) (.inl ⟨rfl, c3, rfl⟩) (by rw [List.length_cons, List.length_cons]; omega)
            rw [if_pos (show 0 < K (s.1 + 1) by omega)] at w1
            exact a4 N0 0 ts hl (wfP_em (wfP_nx w1) (.inr (.inr (.inr (.inr (.inl ⟨rfl, x, ts, rfl, rfl⟩))))) (by rw [List.length_cons]; omega))
        · rename_i c3
          rw [if_neg c3] at h
          exact absurd h (show ¬ (1 : Int) = 0 by decide)
      · exact ⟨rfl, Nat.le_refl _, fun N _ => kpP_rf N s, fun _ x _ _ hw => ⟨x, hw⟩⟩
theorem tlS_ty : ∀ (k : Nat) (s : PS), (tlS K k s).1 = 0 → (tlS K k s).2.1 + s.2.1 = s.1 + (tlS K k s).2.2.1 ∧ s.2.1 ≤ (tlS K k s).2.2.1 ∧ (∀ N, N ≤ s.2.1 → kpP N s (tlS K k s).2) ∧ ∀ (N0 : Nat) (x : Nat) (ts : List Nat), ts.length ≤ 29 → wfP N0 s (x :: ts) → ∃ y, wfP N0 (tlS K k s).2 (y :: ts)
  | 0, s, _ => ⟨rfl, Nat.le_refl _, fun N _ => kpP_rf N s, fun _ x _ _ hw => ⟨x, hw⟩⟩
  | k + 1, s, h => by
    unfold tlS at h ⊢
    split
    · rename_i c
      rw [if_pos c] at h
      split
      · rename_i c2
        rw [if_pos c2] at h
        split
        · rename_i c3
          rw [if_pos c3] at h
          obtain ⟨a1, a2, a3, a4⟩ := tlS_ty k _ h
          obtain ⟨u1, u2⟩ := unS_ok (K := K) c2
          have u1' : (unS K (nxT s)).2.1 = s.1 + 2 := u1
          have u2' : (unS K (nxT s)).2.2.1 = s.2.1 + 1 := u2
          obtain ⟨b1, b2, b3, b4⟩ := prS_ty 400 _ c3
          have e1 : (emS (prS K 400 (unS K (nxT s)).2).2 (if K s.1 = 20043 then 2 else 3) 0).1 = (prS K 400 (unS K (nxT s)).2).2.1 := rfl
          have e2 : (emS (prS K 400 (unS K (nxT s)).2).2 (if K s.1 = 20043 then 2 else 3) 0).2.1 = (prS K 400 (unS K (nxT s)).2).2.2.1 + 1 := rfl
          refine ⟨by omega, by omega, fun N hN => kpP_tr (kpP_tr (kpP_tr (kpP_tr (kpP_nx N s) (unS_kp (show N ≤ (nxT s).2.1 from hN))) (b3 N (by omega))) (kpP_em (by omega))) (a3 N (by omega)), fun N0 x ts hl hw => ?_⟩
          obtain ⟨ty, w1⟩ := unS_ty (K := K) (ts := x :: ts) (by rw [List.length_cons]; omega) (wfP_nx hw) c2
          obtain ⟨ty2, w2⟩ := b4 N0 ty (x :: ts) (by rw [List.length_cons]; omega) w1
          refine a4 N0 0 ts hl (wfP_em w2 (.inr (.inr (.inr (.inl ⟨?_, ty2, x, ts, rfl, rfl⟩)))) (by rw [List.length_cons]; omega))
          split <;> omega
        · rename_i c3
          rw [if_neg c3] at h
          exact absurd h c3
      · rename_i c2
        rw [if_neg c2] at h
        exact absurd h c2
    · exact ⟨rfl, Nat.le_refl _, fun N _ => kpP_rf N s, fun _ x _ _ hw => ⟨x, hw⟩⟩
theorem sumS_ty (s : PS) (h : (sumS K s).1 = 0) : (sumS K s).2.1 + s.2.1 = s.1 + (sumS K s).2.2.1 ∧ s.2.1 + 1 ≤ (sumS K s).2.2.1 ∧ (∀ N, N ≤ s.2.1 → kpP N s (sumS K s).2) ∧ ∀ (N0 : Nat) (ts : List Nat), ts.length ≤ 29 → wfP N0 s ts → ∃ y, wfP N0 (sumS K s).2 (y :: ts) := by
  unfold sumS finS at h ⊢
  split
  · rename_i c
    rw [if_pos c] at h
    split
    · rename_i c2
      rw [if_pos c2, if_pos rfl] at h
      rw [if_pos rfl]
      obtain ⟨u1, u2⟩ := unS_ok (K := K) c
      obtain ⟨b1, b2, b3, b4⟩ := prS_ty 400 _ c2
      obtain ⟨a1, a2, a3, a4⟩ := tlS_ty 400 _ h
      refine ⟨by omega, by omega, fun N hN => kpP_tr (kpP_tr (unS_kp hN) (b3 N (by omega))) (a3 N (by omega)), fun N0 ts hl hw => ?_⟩
      obtain ⟨ty, w1⟩ := unS_ty (K := K) (by omega) hw c
      obtain ⟨ty2, w2⟩ := b4 N0 ty ts (by omega) w1
      exact a4 N0 ty2 ts hl w2
    · rename_i c2
      rw [if_neg c2] at h
      exact absurd h c2
  · rename_i c
    rw [if_neg c] at h
    exact absurd h c
end TY
