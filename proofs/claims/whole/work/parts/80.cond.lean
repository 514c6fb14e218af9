/-! ===== the law's text: conditions; what they come to ===== -/
def cmS (K : Nat → Int) (s : PS) : PR := if (sumS K s).1 = 0 then (if K (sumS K s).2.1 = 20060 ∨ K (sumS K s).2.1 = 20061 ∨ K (sumS K s).2.1 = 20062 then (if (sumS K (nxT (sumS K s).2)).1 = 0 then (0, emS (sumS K (nxT (sumS K s).2)).2 (K (sumS K s).2.1 - 20054) 0) else sumS K (nxT (sumS K s).2)) else (1, (sumS K s).2)) else sumS K s
/-- what waits on top, as long as it is so, comes out -/
def stS (what : Int) : List Int → PS → List Int × PS
  | [], s => ([], s)
  | x :: W, s => if x = what then stS what W (emS s what 0) else (x :: W, s)
def stW (W : List Int) (s : PS) : List Int × PS := stS 11 (stS 10 W s).1 (stS 10 W s).2
def opC : List Int → Nat
  | [] => 0
  | x :: W => (if x = 9 ∨ x = 12 then 1 else 0) + opC W
def brC : List Int → Nat
  | [] => 0
  | x :: W => (if x = 12 then 1 else 0) + brC W
def bnC : List Int → Nat
  | [] => 0
  | x :: W => (if x = 10 ∨ x = 11 then 1 else 0) + bnC W
/-- how what waits may lie -/
def shp : Nat → List Int → Bool
  | _, [] => true
  | q, x :: W => if x = 9 then (q == 0) && shp 0 W else if x = 10 then (q == 0 || q == 3) && shp 1 W else if x = 11 then (q == 0 || q == 3 || q == 1) && shp 2 W else if x = 12 then shp 0 W else false
def anS (K : Nat → Int) : Nat → Bool → List Int → PS → PR
  | 0, _, _, s => (1, s)
  | m + 1, true, W, s => if K s.1 = 10006 ∨ K s.1 = 20040 then (if opC W = 8 then (3, s) else anS K m true ((if K s.1 = 10006 then 9 else 12) :: W) (nxT s)) else (if (cmS K s).1 = 0 then anS K m false (stS 9 W (cmS K s).2).1 (stS 9 W (cmS K s).2).2 else cmS K s)
  | m + 1, false, W, s => if K s.1 = 10005 then anS K m true (10 :: (stS 10 W s).1) (nxT (stS 10 W s).2) else if K s.1 = 10004 then anS K m true (11 :: (stW W s).1) (nxT (stW W s).2) else if brC W = 0 then (0, (stW W s).2) else if K s.1 = 20041 then anS K m false (stS 9 (stW W s).1.tail (stW W s).2).1 (nxT (stS 9 (stW W s).1.tail (stW W s).2).2) else (1, (stW W s).2)
theorem stS_nx (what : Int) : ∀ (W : List Int) (s : PS), stS what W (nxT s) = ((stS what W s).1, nxT (stS what W s).2)
  | [], _ => rfl
  | x :: W, s => by
    unfold stS
    split
    · exact stS_nx what W (emS s what 0)
    · rfl
theorem stW_nx (W : List Int) (s : PS) : stW W (nxT s) = ((stW W s).1, nxT (stW W s).2) := by
  unfold stW
  rw [stS_nx, stS_nx]
theorem stS_i (what : Int) : ∀ (W : List Int) (s : PS), (stS what W s).2.1 = s.1 ∧ (stS what W s).2.2.1 + (stS what W s).1.length = s.2.1 + W.length ∧ s.2.1 ≤ (stS what W s).2.2.1 ∧ ∀ N, N ≤ s.2.1 → kpP N s (stS what W s).2
  | [], s => ⟨rfl, rfl, Nat.le_refl _, fun N _ => kpP_rf N s⟩
  | x :: W, s => by
    unfold stS
    split
    · obtain ⟨h1, h2, h3, h4⟩ := stS_i what W (emS s what 0)
      have e1 : (emS s what 0).1 = s.1 := rfl
      have e2 : (emS s what 0).2.1 = s.2.1 + 1 := rfl
      rw [List.length_cons]
      exact ⟨h1, by omega, by omega, fun N hN => kpP_tr (kpP_em hN) (h4 N (by omega))⟩
    · exact ⟨rfl, rfl, Nat.le_refl _, fun N _ => kpP_rf N s⟩
theorem shp_bn : ∀ (W : List Int) (q : Nat), shp q W = true → bnC W ≤ 2 * brC W + (if q = 2 then 0 else if q = 1 then 1 else 2)
  | [], q, _ => by unfold bnC; omega
  | x :: W, q, h => by
    unfold shp at h
    unfold bnC brC
    split at h
    · rename_i c
      rw [Bool.and_eq_true, beq_iff_eq] at h
      obtain ⟨rfl, h2⟩ := h
      have := shp_bn W 0 h2
      rw [if_neg (by omega), if_neg (by omega)]
      simp at this ⊢
      omega
    · split at h
      · rename_i c0 c
        rw [Bool.and_eq_true] at h
        have := shp_bn W 1 h.2
        have hq := h.1
        simp at hq this
        rw [if_pos (by omega), if_neg (by omega)]
        rcases hq with rfl | rfl <;> simp <;> omega
      · split at h
        · rename_i c0 c1 c
          rw [Bool.and_eq_true] at h
          have := shp_bn W 2 h.2
          have hq := h.1
          simp at hq this
          rw [if_pos (by omega), if_neg (by omega)]
          rcases hq with (rfl | rfl) | rfl <;> simp <;> omega
        · split at h
          · rename_i c0 c1 c2 c
            have := shp_bn W 0 h
            simp at this
            rw [if_neg (by omega), if_pos c]
            split
            · omega
            · split <;> omega
          · cases h
theorem len_oc : ∀ (W : List Int) (q : Nat), shp q W = true → W.length = opC W + bnC W ∧ brC W ≤ opC W
  | [], _, _ => ⟨rfl, Nat.le_refl _⟩
  | x :: W, q, h => by
    unfold shp at h
    unfold opC bnC brC
    rw [List.length_cons]
    split at h
    · rename_i c
      rw [Bool.and_eq_true] at h
      have := len_oc W 0 h.2
      rw [if_pos (.inl c), if_neg (by omega), if_neg (by omega)]
      omega
    · split at h
      · rename_i c0 c
        rw [Bool.and_eq_true] at h
        have := len_oc W 1 h.2
        rw [if_neg (by omega), if_pos (.inl c), if_neg (by omega)]
        omega
      · split at h
        · rename_i c0 c1 c
          rw [Bool.and_eq_true] at h
          have := len_oc W 2 h.2
          rw [if_neg (by omega), if_pos (.inr c), if_neg (by omega)]
          omega
        · split at h
          · rename_i c0 c1 c2 c
            have := len_oc W 0 h
            rw [if_pos (.inr c), if_neg (by omega), if_pos c]
            omega
          · cases h
/-- the nots come out -/
theorem st9 : ∀ (W : List Int) (s : PS), shp 0 W = true → shp 3 (stS 9 W s).1 = true ∧ bnC (stS 9 W s).1 = bnC W ∧ brC (stS 9 W s).1 = brC W ∧ opC (stS 9 W s).1 ≤ opC W ∧ ∀ (N0 : Nat) (r : List Nat), (1 :: r).length ≤ 32 → wfP N0 s (1 :: r) → wfP N0 (stS 9 W s).2 (1 :: r)
  | [], s, _ => ⟨rfl, rfl, rfl, Nat.le_refl _, fun _ _ _ h => h⟩
  | x :: W, s, h => by
    unfold stS
    by_cases c : x = 9
    · rw [if_pos c]
      unfold shp at h
      rw [if_pos c, Bool.and_eq_true] at h
      obtain ⟨a1, a2, a3, a4, a5⟩ := st9 W (emS s 9 0) h.2
      refine ⟨a1, ?_, ?_, ?_, fun N0 r hl hw => a5 N0 r hl (wfP_em hw (.inr (.inr (.inl ⟨rfl, r, rfl, rfl⟩))) hl)⟩
      · rw [a2]
        show _ = (if x = 10 ∨ x = 11 then 1 else 0) + bnC W
        rw [if_neg (by omega)]; omega
      · rw [a3]
        show _ = (if x = 12 then 1 else 0) + brC W
        rw [if_neg (by omega)]; omega
      · show _ ≤ (if x = 9 ∨ x = 12 then 1 else 0) + opC W
        omega
    · rw [if_neg c]
      refine ⟨?_, rfl, rfl, Nat.le_refl _, fun _ _ _ h => h⟩
      unfold shp at h ⊢
      rw [if_neg c] at h ⊢
      split
      · rename_i d1
        rw [if_pos d1] at h
        simp at h ⊢
        exact h
      · rename_i d1
        rw [if_neg d1] at h
        split
        · rename_i d2
          rw [if_pos d2] at h
          simp at h ⊢
          exact h
        · rename_i d2
          rw [if_neg d2] at h
          exact h
/-- the ands come out: one at most -/
theorem st10 {W : List Int} {s : PS} (h : shp 3 W = true) : (stS 10 W s = (W, s) ∧ (∀ x R, W = x :: R → x ≠ 10 ∧ x ≠ 9) ∧ shp 1 W = true) ∨ (∃ R, W = 10 :: R ∧ shp 1 R = true ∧ stS 10 W s = (R, emS s 10 0) ∧ ∀ x T, R = x :: T → x ≠ 10 ∧ x ≠ 9) := by
  match W, h with
  | [], _ => exact .inl ⟨rfl, (fun x R e => nomatch e), rfl⟩
  | x :: R, h =>
    unfold shp at h
    by_cases c9 : x = 9
    · rw [if_pos c9] at h
      simp at h
    · rw [if_neg c9] at h
      by_cases c10 : x = 10
      · right
        rw [if_pos c10] at h
        simp at h
        have hR : ∀ y T, R = y :: T → y ≠ 10 ∧ y ≠ 9 := fun y T e => by
          subst e
          unfold shp at h
          refine ⟨fun q => ?_, fun q => ?_⟩
          · subst q; simp at h
          · subst q; simp at h
        refine ⟨R, by rw [c10], h, ?_, hR⟩
        unfold stS
        rw [if_pos c10]
        match R, hR with
        | [], _ => rfl
        | y :: T, hR =>
          unfold stS
          rw [if_neg (hR y T rfl).1]
      · left
        rw [if_neg c10] at h
        refine ⟨?_, fun y T e => ?_, ?_⟩
        · unfold stS; rw [if_neg c10]
        · cases e; exact ⟨c10, c9⟩
        · unfold shp
          rw [if_neg c9, if_neg c10]
          split
          · rename_i d
            rw [if_pos d] at h
            simp at h ⊢
            exact h
          · rename_i d
            rw [if_neg d] at h
            exact h
/-- the ors come out: one at most -/
theorem st11 {W : List Int} {s : PS} (h : shp 1 W = true) : (stS 11 W s = (W, s) ∧ (W = [] ∨ ∃ R, W = 12 :: R ∧ shp 0 R = true)) ∨ (∃ R, W = 11 :: R ∧ (R = [] ∨ ∃ T, R = 12 :: T ∧ shp 0 T = true) ∧ stS 11 W s = (R, emS s 11 0)) := by
  match W, h with
  | [], _ => exact .inl ⟨rfl, .inl rfl⟩
  | x :: R, h =>
    unfold shp at h
    by_cases c9 : x = 9
    · subst c9; simp at h
    · by_cases c10 : x = 10
      · subst c10; simp at h
      · by_cases c11 : x = 11
        · right
          subst c11
          simp at h
          have hR : R = [] ∨ ∃ T, R = 12 :: T ∧ shp 0 T = true := by
            match R, h with
            | [], _ => exact .inl rfl
            | y :: T, h =>
              right
              unfold shp at h
              by_cases d9 : y = 9
              · subst d9; simp at h
              · by_cases d10 : y = 10
                · subst d10; simp at h
                · by_cases d11 : y = 11
                  · subst d11; simp at h
                  · by_cases d12 : y = 12
                    · subst d12
                      simp at h
                      exact ⟨T, rfl, h⟩
                    · rw [if_neg d9, if_neg d10, if_neg d11, if_neg d12] at h
                      cases h
          refine ⟨R, rfl, hR, ?_⟩
          unfold stS
          rw [if_pos rfl]
          rcases hR with rfl | ⟨T, rfl, -⟩
          · rfl
          · unfold stS
            rw [if_neg (by decide)]
        · left
          by_cases c12 : x = 12
          · subst c12
            simp at h
            exact ⟨by unfold stS; rw [if_neg (by decide)], .inr ⟨R, rfl, h⟩⟩
          · rw [if_neg c9, if_neg c10, if_neg c11, if_neg c12] at h
            cases h
/-- one out of two -/
theorem wf_bin {N0 : Nat} {s : PS} {n : Nat} {o : Int} (ho : o = 10 ∨ o = 11) (hn : n + 1 ≤ 32) (hw : wfP N0 s (List.replicate (n + 2) 1)) : wfP N0 (emS s o 0) (List.replicate (n + 1) 1) :=
  wfP_em hw (.inr (.inr (.inr (.inr (.inr (.inr ⟨ho, List.replicate n 1, rfl, rfl⟩)))))) (by rw [List.length_replicate]; exact hn)
theorem st10_ty {W : List Int} {s : PS} (h : shp 3 W = true) {N0 : Nat} (hb : bnC W ≤ 20) (hw : wfP N0 s (List.replicate (bnC W + 1) 1)) : shp 1 (stS 10 W s).1 = true ∧ bnC (stS 10 W s).1 ≤ bnC W ∧ brC (stS 10 W s).1 = brC W ∧ opC (stS 10 W s).1 = opC W ∧ wfP N0 (stS 10 W s).2 (List.replicate (bnC (stS 10 W s).1 + 1) 1) := by
  rcases st10 (s := s) h with ⟨e, -, h1⟩ | ⟨R, rfl, h1, e, -⟩
  · rw [e]
    exact ⟨h1, Nat.le_refl _, rfl, rfl, hw⟩
  · rw [e]
    have e1 : bnC (10 :: R) = bnC R + 1 := by show (if (10 : Int) = 10 ∨ (10 : Int) = 11 then 1 else 0) + bnC R = _; rw [if_pos (.inl rfl)]; omega
    have e2 : brC (10 :: R) = brC R := by show (if (10 : Int) = 12 then 1 else 0) + brC R = _; rw [if_neg (by decide)]; omega
    have e3 : opC (10 :: R) = opC R := by show (if (10 : Int) = 9 ∨ (10 : Int) = 12 then 1 else 0) + opC R = _; rw [if_neg (by decide)]; omega
    rw [e1] at hw hb
    exact ⟨h1, by rw [e1]; exact Nat.le_succ _, e2.symm, e3.symm, wf_bin (n := bnC R) (.inl rfl) (by omega) hw⟩
theorem stW_ty {W : List Int} {s : PS} (h : shp 3 W = true) {N0 : Nat} (hb : bnC W ≤ 20) (hw : wfP N0 s (List.replicate (bnC W + 1) 1)) : ((stW W s).1 = [] ∨ ∃ R, (stW W s).1 = 12 :: R ∧ shp 0 R = true) ∧ bnC (stW W s).1 ≤ bnC W ∧ brC (stW W s).1 = brC W ∧ opC (stW W s).1 = opC W ∧ wfP N0 (stW W s).2 (List.replicate (bnC (stW W s).1 + 1) 1) := by
  obtain ⟨a1, a2, a3, a4, a5⟩ := st10_ty h hb hw
  unfold stW
  generalize stS 10 W s = q at a1 a2 a3 a4 a5
  rcases st11 (s := q.2) a1 with ⟨e, h1⟩ | ⟨R, e0, h1, e⟩
  · rw [e]
    exact ⟨h1, a2, a3, a4, a5⟩
  · rw [e]
    rw [e0] at a2 a3 a4 a5
    have e1 : bnC (11 :: R) = bnC R + 1 := by show (if (11 : Int) = 10 ∨ (11 : Int) = 11 then 1 else 0) + bnC R = _; rw [if_pos (.inr rfl)]; omega
    have e2 : brC (11 :: R) = brC R := by show (if (11 : Int) = 12 then 1 else 0) + brC R = _; rw [if_neg (by decide)]; omega
    have e3 : opC (11 :: R) = opC R := by show (if (11 : Int) = 9 ∨ (11 : Int) = 12 then 1 else 0) + opC R = _; rw [if_neg (by decide)]; omega
    rw [e1] at a2 a5
    show _ ∧ bnC R ≤ _ ∧ brC R = _ ∧ opC R = _ ∧ _
    exact ⟨h1, by omega, by omega, by omega, wf_bin (n := bnC R) (.inr rfl) (by omega) a5⟩
section CMP
variable {K : Nat → Int}
theorem cmS_ty (s : PS) (h : (cmS K s).1 = 0) : (cmS K s).2.1 + s.2.1 = s.1 + (cmS K s).2.2.1 ∧ s.2.1 + 3 ≤ (cmS K s).2.2.1 ∧ (∀ N, N ≤ s.2.1 → kpP N s (cmS K s).2) ∧ ∀ (N0 : Nat) (ts : List Nat), ts.length ≤ 27 → wfP N0 s ts → wfP N0 (cmS K s).2 (1 :: ts) := by
  unfold cmS at h ⊢
  split
  · rename_i c
    rw [if_pos c] at h
    split
    · rename_i c2
      rw [if_pos c2] at h
      split
      · rename_i c3
        obtain ⟨a1, a2, a3, a4⟩ := sumS_ty s c
        obtain ⟨b1, b2, b3, b4⟩ := sumS_ty (nxT (sumS K s).2) c3
        have e1 : (nxT (sumS K s).2).1 = (sumS K s).2.1 + 1 := rfl
        have e2 : (nxT (sumS K s).2).2.1 = (sumS K s).2.2.1 := rfl
        refine ⟨?_, ?_, fun N hN => kpP_tr (kpP_tr (kpP_tr (a3 N hN) (kpP_nx _ _)) (b3 N (by omega))) (kpP_em (by omega)), fun N0 ts hl hw => ?_⟩
        · show (sumS K (nxT (sumS K s).2)).2.1 + s.2.1 = s.1 + ((sumS K (nxT (sumS K s).2)).2.2.1 + 1)
          omega
        · show s.2.1 + 3 ≤ (sumS K (nxT (sumS K s).2)).2.2.1 + 1
          omega
        · obtain ⟨t1, w1⟩ := a4 N0 ts (by omega) hw
          obtain ⟨t2, w2⟩ := b4 N0 (t1 :: ts) (by rw [List.length_cons]; omega) (wfP_nx w1)
          exact wfP_em w2 (.inr (.inr (.inr (.inr (.inr (.inl ⟨by omega, t2, t1, ts, rfl, rfl⟩)))))) (by rw [List.length_cons]; omega)
      · rename_i c3
        rw [if_neg c3] at h
        exact absurd h c3
    · rename_i c2
      rw [if_neg c2] at h
      exact absurd h (show ¬ (1 : Int) = 0 by decide)
  · rename_i c
    rw [if_neg c] at h
    exact absurd h c
theorem anS_ty {N0 : Nat} : ∀ (m : Nat) (due : Bool) (W : List Int) (s : PS), (anS K m due W s).1 = 0 → shp (if due then 0 else 3) W = true → opC W ≤ 8 → s.2.1 + W.length ≤ s.1 → wfP N0 s (List.replicate (bnC W + (if due then 0 else 1)) 1) → wfP N0 (anS K m due W s).2 [1] ∧ (anS K m due W s).2.2.1 ≤ (anS K m due W s).2.1 ∧ s.2.1 + (if due then 1 else 0) ≤ (anS K m due W s).2.2.1 ∧ ∀ N, N ≤ s.2.1 → kpP N s (anS K m due W s).2
  | 0, _, _, _, h, _, _, _, _ => absurd h (show ¬ (1 : Int) = 0 by decide)
  | m + 1, true, W, s, h, hs, ho, hN, hw => by
    have hs' : shp 0 W = true := hs
    have hbn := shp_bn W 0 hs'
    have hoc := len_oc W 0 hs'
    have hw' : wfP N0 s (List.replicate (bnC W) 1) := hw
    rw [if_neg (by decide), if_neg (by decide)] at hbn
    unfold anS at h ⊢
    split
    · rename_i c
      rw [if_pos c] at h
      split
      · rename_i c2
        rw [if_pos c2] at h
        exact absurd h (show ¬ (3 : Int) = 0 by decide)
      · rename_i c2
        rw [if_neg c2] at h
        have hx : ((if K s.1 = 10006 then (9 : Int) else 12) = 9 ∨ (if K s.1 = 10006 then (9 : Int) else 12) = 12) := by split <;> simp
        generalize (if K s.1 = 10006 then (9 : Int) else 12) = x at h hx ⊢
        have e1 : bnC (x :: W) = bnC W := by show (if x = 10 ∨ x = 11 then 1 else 0) + bnC W = _; rw [if_neg (by omega)]; omega
        have e2 : opC (x :: W) = opC W + 1 := by show (if x = 9 ∨ x = 12 then 1 else 0) + opC W = _; rw [if_pos hx]; omega
        have e3 : shp 0 (x :: W) = true := by
          unfold shp
          rcases hx with rfl | rfl
          · simp; exact hs'
          · simp; exact hs'
        obtain ⟨a1, a2, a3, a4⟩ := anS_ty m true (x :: W) (nxT s) h e3 (by omega) (by rw [List.length_cons]; show s.2.1 + _ ≤ s.1 + 1; omega) (by show wfP N0 (nxT s) (List.replicate (bnC (x :: W)) 1); rw [e1]; exact wfP_nx hw')
        exact ⟨a1, a2, a3, fun N hN' => kpP_tr (kpP_nx N s) (a4 N hN')⟩
    · rename_i c
      rw [if_neg c] at h
      split
      · rename_i c2
        rw [if_pos c2] at h
        obtain ⟨b1, b2, b3, b4⟩ := cmS_ty s c2
        have w1 := b4 N0 _ (by rw [List.length_replicate]; omega) hw'
        obtain ⟨q1, q2, q3, q4, q5⟩ := st9 W (cmS K s).2 hs'
        obtain ⟨i1, i2, i3, i4⟩ := stS_i 9 W (cmS K s).2
        have w2 := q5 N0 _ (by rw [List.length_cons, List.length_replicate]; omega) w1
        obtain ⟨a1, a2, a3, a4⟩ := anS_ty m false _ _ h q1 (by omega) (by omega) (by rw [q2]; exact w2)
        exact ⟨a1, a2, (by simp -implicitDefEqProofs only [if_true]; simp -implicitDefEqProofs only [Bool.false_eq_true, if_false] at a3; omega), fun N hN' => kpP_tr (kpP_tr (b3 N hN') (i4 N (by omega))) (a4 N (by omega))⟩
      · rename_i c2
        rw [if_neg c2] at h
        exact absurd h c2
  | m + 1, false, W, s, h, hs, ho, hN, hw => by
    have hs' : shp 3 W = true := hs
    have hbn := shp_bn W 3 hs'
    have hoc := len_oc W 3 hs'
    have hw' : wfP N0 s (List.replicate (bnC W + 1) 1) := hw
    rw [if_neg (by decide), if_neg (by decide)] at hbn
    unfold anS at h ⊢
    split
    · rename_i c
      rw [if_pos c] at h
      obtain ⟨q1, q2, q3, q4, q5⟩ := st10_ty hs' (by omega) hw'
      obtain ⟨i1, i2, i3, i4⟩ := stS_i 10 W s
      have e1 : bnC (10 :: (stS 10 W s).1) = bnC (stS 10 W s).1 + 1 := by show (if (10 : Int) = 10 ∨ (10 : Int) = 11 then 1 else 0) + bnC _ = _; rw [if_pos (.inl rfl)]; omega
      have e2 : opC (10 :: (stS 10 W s).1) = opC (stS 10 W s).1 := by show (if (10 : Int) = 9 ∨ (10 : Int) = 12 then 1 else 0) + opC _ = _; rw [if_neg (by decide)]; omega
      have e3 : shp 0 (10 :: (stS 10 W s).1) = true := by unfold shp; simp; exact q1
      obtain ⟨a1, a2, a3, a4⟩ := anS_ty m true _ _ h e3 (by omega) (by rw [List.length_cons]; show (stS 10 W s).2.2.1 + _ ≤ (stS 10 W s).2.1 + 1; omega) (by show wfP N0 (nxT _) (List.replicate (bnC (10 :: (stS 10 W s).1)) 1); rw [e1]; exact wfP_nx q5)
      have a3' : (stS 10 W s).2.2.1 + 1 ≤ _ := a3
      exact ⟨a1, a2, (by simp -implicitDefEqProofs only [Bool.false_eq_true, if_false]; omega), fun N hN' => kpP_tr (kpP_tr (i4 N hN') (kpP_nx _ _)) (a4 N (show N ≤ (stS 10 W s).2.2.1 by omega))⟩
    · rename_i c
      rw [if_neg c] at h
      obtain ⟨q1, q2, q3, q4, q5⟩ := stW_ty (s := s) hs' (by omega) hw'
      obtain ⟨i1, i2, i3, i4⟩ := stS_i 10 W s
      obtain ⟨j1, j2, j3, j4⟩ := stS_i 11 (stS 10 W s).1 (stS 10 W s).2
      have k1 : (stW W s).2.1 = s.1 := j1.trans i1
      have k2 : (stW W s).2.2.1 + (stW W s).1.length = s.2.1 + W.length := j2.trans i2
      have k3 : s.2.1 ≤ (stW W s).2.2.1 := Nat.le_trans i3 j3
      have k4 : ∀ N, N ≤ s.2.1 → kpP N s (stW W s).2 := fun N hN' => kpP_tr (i4 N hN') (j4 N (by omega))
      split
      · rename_i c2
        rw [if_pos c2] at h
        have e1 : bnC (11 :: (stW W s).1) = bnC (stW W s).1 + 1 := by show (if (11 : Int) = 10 ∨ (11 : Int) = 11 then 1 else 0) + bnC _ = _; rw [if_pos (.inr rfl)]; omega
        have e2 : opC (11 :: (stW W s).1) = opC (stW W s).1 := by show (if (11 : Int) = 9 ∨ (11 : Int) = 12 then 1 else 0) + opC _ = _; rw [if_neg (by decide)]; omega
        have e3 : shp 0 (11 :: (stW W s).1) = true := by
          rcases q1 with e | ⟨R, e, hR⟩
          · rw [e]; rfl
          · rw [e]; unfold shp shp; simp; exact hR
        obtain ⟨a1, a2, a3, a4⟩ := anS_ty m true _ _ h e3 (by omega) (by rw [List.length_cons]; show (stW W s).2.2.1 + _ ≤ (stW W s).2.1 + 1; omega) (by show wfP N0 (nxT _) (List.replicate (bnC (11 :: (stW W s).1)) 1); rw [e1]; exact wfP_nx q5)
        have a3' : (stW W s).2.2.1 + 1 ≤ _ := a3
        exact ⟨a1, a2, (by simp -implicitDefEqProofs only [Bool.false_eq_true, if_false]; omega), fun N hN' => kpP_tr (kpP_tr (k4 N hN') (kpP_nx _ _)) (a4 N (show N ≤ (stW W s).2.2.1 by omega))⟩
      · rename_i c2
        rw [if_neg c2] at h
        split
        · rename_i c3
          rw [if_pos c3] at h
          have hnil : (stW W s).1 = [] := by
            rcases q1 with e | ⟨R, e, hR⟩
            · exact e
            · rw [e] at q3
              have : brC (12 :: R) = brC R + 1 := by show (if (12 : Int) = 12 then 1 else 0) + brC R = _; rw [if_pos rfl]; omega
              omega
          rw [hnil] at q5 k2
          have k2' : (stW W s).2.2.1 = s.2.1 + W.length := k2
          exact ⟨q5, by show (stW W s).2.2.1 ≤ (stW W s).2.1; omega, (by simp -implicitDefEqProofs only [Bool.false_eq_true, if_false]; exact k3), k4⟩
        · rename_i c3
          rw [if_neg c3] at h
          split
          · rename_i c4
            rw [if_pos c4] at h
            obtain ⟨R, eR, hR⟩ : ∃ R, (stW W s).1 = 12 :: R ∧ shp 0 R = true := by
              rcases q1 with e | e
              · rw [e] at q3
                exact absurd q3.symm c3
              · exact e
            rw [eR] at h q2 q3 q4 q5 k2 ⊢
            rw [List.length_cons] at k2
            have f1 : bnC (12 :: R) = bnC R := by show (if (12 : Int) = 10 ∨ (12 : Int) = 11 then 1 else 0) + bnC R = _; rw [if_neg (by decide)]; omega
            have f2 : opC (12 :: R) = opC R + 1 := by show (if (12 : Int) = 9 ∨ (12 : Int) = 12 then 1 else 0) + opC R = _; rw [if_pos (.inr rfl)]; omega
            rw [f1] at q2 q5
            obtain ⟨p1, p2, p3, p4, p5⟩ := st9 R (stW W s).2 hR
            obtain ⟨n1, n2, n3, n4⟩ := stS_i 9 R (stW W s).2
            have w2 := p5 N0 (List.replicate (bnC R) 1) (by rw [List.length_cons, List.length_replicate]; omega) q5
            obtain ⟨a1, a2, a3, a4⟩ := anS_ty m false _ _ h p1 (by show opC (stS 9 R (stW W s).2).1 ≤ 8; omega) (by show (stS 9 R (stW W s).2).2.2.1 + (stS 9 R (stW W s).2).1.length ≤ (stS 9 R (stW W s).2).2.1 + 1; omega) (by show wfP N0 (nxT _) (List.replicate (bnC (stS 9 R (stW W s).2).1 + 1) 1); rw [p2]; exact wfP_nx w2)
            have a3' : (stS 9 R (stW W s).2).2.2.1 + 0 ≤ _ := a3
            exact ⟨a1, a2, (by simp -implicitDefEqProofs only [Bool.false_eq_true, if_false]; show s.2.1 + 0 ≤ _; omega), fun N hN' => kpP_tr (kpP_tr (kpP_tr (k4 N hN') (n4 N (by omega))) (kpP_nx _ _)) (a4 N (show N ≤ (stS 9 R (stW W s).2).2.2.1 by omega))⟩
          · rename_i c4
            rw [if_neg c4] at h
            exact absurd h (show ¬ (1 : Int) = 0 by decide)
end CMP
