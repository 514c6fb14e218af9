/-! ===== the image, as a call ===== -/
set_option maxHeartbeats 1000000
theorem pIn_pidx {a k : Nat} (h : pIn a k) : pidx a k < 1910 := by
  unfold pIn at h
  rcases h with ⟨rfl, h⟩ | ⟨rfl, h⟩ | ⟨rfl | rfl, h⟩ | ⟨rfl, h⟩ | ⟨rfl, h⟩ | ⟨rfl | rfl | rfl, h⟩ | ⟨rfl | rfl, h⟩ | ⟨rfl, h⟩ | ⟨rfl, h⟩ | ⟨rfl, rfl⟩ | ⟨rfl | rfl | rfl | rfl, h⟩ | ⟨rfl | rfl, h⟩
  · simp -implicitDefEqProofs only [pidx, Nat.reduceEqDiff, false_and, reduceIte, true_and]; rw [if_pos h]; omega
  · rcases h with rfl | rfl | rfl | rfl | rfl | rfl | rfl | rfl | rfl <;> decide
  · simp -implicitDefEqProofs only [pidx, Nat.reduceEqDiff, false_and, reduceIte, true_and]; rw [if_pos h]; omega
  · simp -implicitDefEqProofs only [pidx, Nat.reduceEqDiff, false_and, reduceIte, true_and]; rw [if_pos h]; omega
  · simp -implicitDefEqProofs only [pidx, Nat.reduceEqDiff, false_and, reduceIte, true_and]; rw [if_pos h]; omega
  · simp -implicitDefEqProofs only [pidx, Nat.reduceEqDiff, false_and, reduceIte, true_and]; rw [if_pos h]; omega
  · simp -implicitDefEqProofs only [pidx, Nat.reduceEqDiff, false_and, reduceIte, true_and]; rw [if_pos h]; omega
  · simp -implicitDefEqProofs only [pidx, Nat.reduceEqDiff, false_and, reduceIte, true_and]; rw [if_pos h]; omega
  · simp -implicitDefEqProofs only [pidx, Nat.reduceEqDiff, false_and, reduceIte, true_and]; rw [if_pos h]; omega
  · simp -implicitDefEqProofs only [pidx, Nat.reduceEqDiff, false_and, reduceIte, true_and]; rw [if_pos h]; omega
  · simp -implicitDefEqProofs only [pidx, Nat.reduceEqDiff, false_and, reduceIte, true_and]; rw [if_pos h]; omega
  · simp -implicitDefEqProofs only [pidx, Nat.reduceEqDiff, false_and, reduceIte, true_and]; rw [if_pos h]; omega
  · simp -implicitDefEqProofs only [pidx, Nat.reduceEqDiff, false_and, reduceIte, true_and]; rw [if_pos h]; omega
  · decide
  · simp -implicitDefEqProofs only [pidx, Nat.reduceEqDiff, false_and, reduceIte, true_and]; rw [if_pos h]; omega
  · simp -implicitDefEqProofs only [pidx, Nat.reduceEqDiff, false_and, reduceIte, true_and]; rw [if_pos h]; omega
  · simp -implicitDefEqProofs only [pidx, Nat.reduceEqDiff, false_and, reduceIte, true_and]; rw [if_pos h]; omega
  · simp -implicitDefEqProofs only [pidx, Nat.reduceEqDiff, false_and, reduceIte, true_and]; rw [if_pos h]; omega
  · simp -implicitDefEqProofs only [pidx, Nat.reduceEqDiff, false_and, reduceIte, true_and]; rw [if_pos h]; omega
  · simp -implicitDefEqProofs only [pidx, Nat.reduceEqDiff, false_and, reduceIte, true_and]; rw [if_pos h]; omega
section IC
variable {z : xZ} {v y : xV}
theorem All17 (hI : Inv v) : All 17 v v := ⟨hI.sc, hI.lw, hI.pl, hI.tb, hI.wd, fun k _ => congrFun hI.bk k, hI.pt, hI.ht, hI.th, hI.sp, hI.sm, hI.fi, hI.wi⟩
theorem im0_off {b : Int} {a k : Nat} (h : ¬ (a = 208 ∧ (k = 0 ∨ k = 65 ∨ k = 66 ∨ k = 67))) : im0 b y a k = y a k := by
  unfold im0
  rw [up_ap, if_neg (by omega), up_ap, if_neg (by omega), up_ap, if_neg (by omega), up_ap, if_neg (by omega)]
theorem im0_66 {b : Int} : im0 b y 208 66 = 1 := by
  unfold im0
  rw [up_ap, if_neg (by decide), up_sm]
theorem c_image1 (hz : Lay z) (hI : Inv v) : CallOk 171 309 [.inl 1] z v := by
  obtain ⟨n, a1, a2, a3, a4⟩ := hI.sc
  obtain ⟨N, nl, l1, l2⟩ := hI.lw
  rw [shv17] at l2
  have i71 := hI.im.2.1
  unfold CallOk
  refine e_image1 (d := 96) hz a3 l2.2.1 l1.2.1 (by decide) (fun y h1 h2 h3 h4 => ⟨⟨_, rfl⟩, rom_rf hz, h3 10 (by decide) (by omega), ?_⟩)
  refine m_image1 (d := 97) hz (fun y' hp => ?_)
  obtain ⟨p1, p2, p3, p4, p5⟩ := hp
  rw [i71] at h1
  have q4 : ∀ a k, a ≠ 249 → ¬ (a = 208 ∧ (k = 0 ∨ k = 65 ∨ k = 66 ∨ k = 67)) → y' a k = y a k := fun a k q1 q2 => by rw [p4 a k q1 (by omega) (by omega), im0_off q2]
  have qf : ∀ a, a ≠ 249 → a ≠ 208 → y' a = y a := fun a q1 q2 => funext fun k => q4 a k q1 (by omega)
  have e66 : y' 208 66 = 1 := by rw [p4 208 66 (by decide) (by decide) (by omega), im0_66]
  have e16 : y' 16 = udR (v 16) 2 1 := (qf 16 (by decide) (by decide)).trans h4
  refine ⟨rfl, rfl, Inv_I1 hI (fun a k s ne => ?_) ⟨?_, ?_, .inr ⟨?_, ?_⟩⟩, (qf 10 (by decide) (by decide)).trans (h3 10 (by decide) (by omega))⟩
  · have b := sIn_b s
    have b8 : ¬ (a = 208 ∧ (k = 0 ∨ k = 65 ∨ k = 67)) := by
      rintro ⟨rfl, q⟩
      have l := sB_m b
      clear b s
      omega
    have b6 := b.1.2.2.2.2.1
    clear b s
    unfold sIm at ne
    by_cases c6 : a = 16
    · subst c6
      rw [e16]
      unfold udR
      rw [if_neg (by omega)]
    · rw [q4 a k (by omega) (by omega), h3 a c6 (by omega)]
  · rw [e16, e66]; rfl
  · rw [qf 71 (by decide) (by decide)]
    exact h1.1
  · rw [e16]; rfl
  · refine All_c (w := 17) (w' := 70) (N := N) (All17 hI) (by decide) (by decide) (fun a k hp => ?_) l2.2.1 (CpW_cg h2 (fun a q1 q2 => qf a (by omega) (by omega))) (fun n' q => ?_)
    · have t := p3 a k (pIn_pidx hp)
      rw [if_neg (by decide)] at t
      unfold pIn at hp
      show y' 249 (pidx a k) = v a k
      rw [t, im0_off (by omega), h3 a (by omega) (by omega)]
    · have e : n' = n := q.2.1.symm.trans a3.2.1
      rw [e]
      exact RS_fr (fun a q1 q2 => qf a (by omega) (by omega)) h1
theorem c_image2 (hz : Lay z) (hI : Inv v) (h16 : v 16 2 = 1) (hA : All 70 (uI v) v) : CallOk 171 309 [.inl 0] z v := by
  obtain ⟨n, b1, b2, b3, b4⟩ := hA.1
  obtain ⟨N, nl, l1, l2⟩ := hA.2.1
  obtain ⟨q, k, k1, k2⟩ := hI.kr
  have hN : v 80 6 = (N : Int) := l2.2.1
  have i18 : v 18 0 = 0 := by obtain ⟨n, _, _, a3, _⟩ := hI.sc; exact a3.1
  have h66 : v 208 66 = 1 := hI.im.1.symm.trans h16
  unfold CallOk
  refine e_image2 (d := 96) hz b3 hN l1.2.1 h16 (fun y h1 h2 h3 h4 => ⟨⟨_, rfl⟩, rom_rf hz, h3 10 (by decide) (by omega), ?_⟩)
  refine m_image2 (d := 97) hz (by rw [h3 208 (by decide) (by omega)]; exact h66) (fun y1 hp => ?_)
  obtain ⟨p1, p2, p3, p4, p5⟩ := hp
  rw [i18] at h1
  have hF : ∀ a k, ¬ (a = 208 ∧ k = 3) → up y1 208 3 0 a k = y1 a k := fun a k h => by rw [up_ap, if_neg h]
  have q4 : ∀ a k, a ≠ 249 → ¬ pidx a k < 1910 → ¬ (a = 208 ∧ (k = 0 ∨ k = 3 ∨ k = 65 ∨ k = 66 ∨ k = 67)) → up y1 208 3 0 a k = y a k := fun a k q1 q2 q3 => by rw [hF a k (by omega), p4 a k q1 (by omega) (fun _ => q2), im0_off (by omega)]
  have qc : ∀ a, a < 208 → up y1 208 3 0 a = y a := fun a ha => funext fun k => q4 a k (by omega) (fun q => by have := pdx_b (a := a) (k := k) (by omega); omega) (by omega)
  have e249 : up y1 208 3 0 249 = v 249 := by
    rw [up_off _ _ _ (by decide), p5 rfl]
    funext k
    rw [im0_off (by omega), h3 249 (by decide) (by omega)]
  have e16 : up y1 208 3 0 16 = udR (v 16) 5 0 := (qc 16 (by decide)).trans h4
  generalize hFF : up y1 208 3 0 = F at *
  have hu : ∀ a k, pIn a k → F a k = uI v a k := fun a k hp => by
    have t := p3 a k (pIn_pidx hp)
    rw [if_pos rfl] at t
    unfold pIn at hp
    rw [hF a k (by omega), t, im0_off (by omega), h3 249 (by decide) (by omega)]
    rfl
  have A17 : All 17 F F := All_c (w := 70) (w' := 17) (N := N) hA (by decide) (by decide) hu hN (CpW_cg h2 (fun a q1 q2 => qc a (by omega))) (fun n' q => by
    have e : n' = n := q.2.1.symm.trans b3.2.1
    rw [e]
    exact RS_fr (fun a q1 q2 => qc a (by omega)) h1)
  obtain ⟨A1, A2, A3, A4, A5, A6, A7, A8, A9, A10, A11, A12, A13⟩ := A17
  have c14 := h2.2.2.2.2.2.2.2.2.2.2.2.2.2
  have c11 := h2.2.2.2.2.2.2.2.2.2.2.1
  have E16 : ∀ k, k ≠ 5 → F 16 k = v 16 k := fun k hk => by
    rw [e16]
    unfold udR
    rw [if_neg hk]
  have e8 := h3 208 (by decide) (by omega)
  have Ea : ∀ a, a ≠ 16 → (a < 17 ∨ (69 < a ∧ a < 208)) → F a = v a := fun a q1 q2 => (qc a (by omega)).trans (h3 a q1 (by omega))
  refine ⟨rfl, rfl, ⟨A1, A2, A3, A4, A5, ?_, A7, A8, A9, A10, A11, A12, A13, ⟨q, 0, KR0 k1 (fun a q1 q2 => (qc a (by omega)).trans (h3 a (by omega) (by omega))) (by rw [e16]; rfl) (by rw [e16]; rfl), ?_⟩, aTp hI.tp (fun a k s => ?_), aFt hI.ft (fun a k s => ?_), aCn hI.cn (fun a k s => ?_), aIm hI.im (fun a k s => ?_)⟩, (qc 10 (by decide)).trans (h3 10 (by decide) (by omega))⟩
  · funext k
    by_cases ck : k < 600
    · exact A6 k ck
    · rw [qc 69 (by decide), q4 213 k (by decide) (fun q => by have := pdx_b (a := 213) (k := k) (by omega); omega) (by omega), h3 213 (by decide) (by omega), ← hI.bk]
      exact c14 k (by omega)
  · rw [← hFF, up_sm]; rfl
  · rcases s with ⟨rfl, rfl⟩ | ⟨rfl, rfl⟩ | rfl | rfl
    · exact E16 8 (by decide)
    · rw [q4 208 10 (by decide) (by decide) (by decide), e8]
    · rw [Ea 133 (by decide) (by omega)]
    · rw [q4 214 k (by decide) (by simp [pidx]) (by omega), h3 214 (by decide) (by omega)]
  · rcases s with ⟨rfl, rfl | rfl⟩ | ⟨rfl, rfl | rfl⟩
    · exact E16 11 (by decide)
    · exact E16 12 (by decide)
    · rw [q4 208 30 (by decide) (by decide) (by decide), e8]
    · rw [q4 208 31 (by decide) (by decide) (by decide), e8]
  · rcases s with ⟨rfl, rfl⟩ | h | rfl | ⟨rfl, rfl⟩ | ⟨rfl | rfl | rfl | rfl, h⟩ | rfl
    · rw [q4 208 5 (by decide) (by decide) (by decide), e8]
    · rw [Ea a (by omega) (by omega)]
    · rw [q4 215 k (by decide) (by simp [pidx]) (by omega), h3 215 (by decide) (by omega)]
    · rw [Ea 123 (by decide) (by omega)]
    · rw [qc 51 (by decide)]; exact (c11 34 12 (by omega)).2.2 k (by omega)
    · rw [qc 53 (by decide)]; exact (c11 36 12 (by omega)).2.2 k (by omega)
    · rw [qc 55 (by decide)]; exact (c11 38 9 (by omega)).2.2 k (by omega)
    · rw [qc 57 (by decide)]; exact (c11 40 10 (by omega)).2.2 k (by omega)
    · rw [Ea 10 (by decide) (by omega)]
  · rcases s with ⟨rfl, rfl⟩ | ⟨rfl, rfl⟩ | h | rfl
    · exact E16 2 (by decide)
    · rw [hF 208 66 (by decide), p4 208 66 (by decide) (by decide) (fun _ => by decide), im0_66, h66]
    · rw [Ea a (by omega) (by omega)]
    · rw [e249]
theorem c_image (hz : Lay z) (hI : Inv v) {b : Int} (hb : b = 0 ∨ b = 1) : CallOk 171 309 [.inl b] z v := by
  rcases hb with rfl | rfl
  · rcases hI.im.2.2 with h | ⟨h, hA⟩
    · unfold CallOk
      exact e_image0 (d := 96) hz h ⟨⟨_, rfl⟩, rom_rf hz, rfl, m_image0 (d := 97) hz (hI.im.1.symm.trans h) ⟨rfl, rfl, Inv_told hI, up_off _ _ _ (by decide)⟩⟩
    · exact c_image2 hz hI h hA
  · exact c_image1 hz hI
end IC
