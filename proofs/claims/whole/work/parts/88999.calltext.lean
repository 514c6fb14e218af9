/-! ===== a text is taken ===== -/
set_option maxHeartbeats 1000000
theorem nTF {a k : Nat} (ne : ¬ (sTp a k ∨ sFt a k)) : (a = 208 → k ≠ 10 ∧ k ≠ 30 ∧ k ≠ 31) ∧ (a = 16 → k ≠ 8 ∧ k ≠ 11 ∧ k ≠ 12) := by
  refine ⟨?_, ?_⟩
  · rintro rfl
    refine ⟨?_, ?_, ?_⟩
    · rintro rfl; exact ne (.inl (.inr (.inl ⟨rfl, rfl⟩)))
    · rintro rfl; exact ne (.inr (.inr ⟨rfl, .inl rfl⟩))
    · rintro rfl; exact ne (.inr (.inr ⟨rfl, .inr rfl⟩))
  · rintro rfl
    refine ⟨?_, ?_, ?_⟩
    · rintro rfl; exact ne (.inl (.inl ⟨rfl, rfl⟩))
    · rintro rfl; exact ne (.inr (.inl ⟨rfl, .inl rfl⟩))
    · rintro rfl; exact ne (.inr (.inl ⟨rfl, .inr rfl⟩))
theorem md_eq {y y' : xV} {a k : Nat} (b : sB a k) (h1 : (a < 217 ∨ 227 < a) → y' a k = y a k) (h2 : 217 ≤ a → a ≤ 220 → k < 32 → y' a k = y a k) (h3 : (a = 221 ∨ a = 222) → k < 800 → y' a k = y a k) (h4 : a = 224 → k < 64 → y' a k = y a k) (h5 : a = 227 → k < 48 → y' a k = y a k) : y' a k = y a k := by
  have r3 := b.1.2.2.2.2.2.2.2
  have r4 := b.2.2.2.2.2.1
  have r5 := b.2.2.2.2.2.2.1
  have r2 := b.2.2.2.2.2.2.2.2.1
  have r6 := b.2.2.2.2.2.2.2.2.2.1
  clear b
  by_cases d1 : a < 217 ∨ 227 < a
  · exact h1 d1
  · by_cases d2 : a ≤ 220
    · refine h2 ?_ d2 ?_
      · clear r2 r3 r4 r5 r6; omega
      · clear r3 r4 r5 r6; omega
    · have d3 : a = 221 ∨ a = 222 ∨ a = 224 ∨ a = 227 := by clear r2 r4 r5 r6; omega
      rcases d3 with rfl | rfl | rfl | rfl
      · exact h3 (.inl rfl) (by clear r2 r3 r4 r5; omega)
      · exact h3 (.inr rfl) (by clear r2 r3 r4 r5; omega)
      · exact h4 rfl (by clear r2 r3 r5 r6; omega)
      · exact h5 rfl (by clear r2 r3 r4 r6; omega)
section TX
variable {z : xZ} {v y y' v' : xV} {K : Nat → Int}
theorem LwC_f (h : LwC K y) (e : ∀ a, 27 ≤ a → a ≤ 32 → y' a = y a) : LwC K y' := by
  unfold LwC at h ⊢
  rw [e 27 (by decide) (by decide), e 28 (by decide) (by decide), e 29 (by decide) (by decide), e 30 (by decide) (by decide), e 31 (by decide) (by decide), e 32 (by decide) (by decide)]
  exact h
theorem CRx_f {q t p i : Nat} (h : CRx q K t p i y) (e : ∀ a, t ≤ a → a ≤ t + 6 → y' a = y a) : CRx q K t p i y' := by
  unfold CRx at h ⊢
  rw [e (t + 1) (by omega) (by omega), e (t + 2) (by omega) (by omega), e (t + 3) (by omega) (by omega), e (t + 4) (by omega) (by omega), e (t + 5) (by omega) (by omega), e (t + 6) (by omega) (by omega)]
  exact h
theorem law_new (h : (lawR K).1.1 = 0) (hN : (lawR K).1.2.2.1 ≤ 400) (c : LwC K y) (m : LwM K y) : iLw 17 y y := by
  obtain ⟨b1, b2, b3⟩ := law_bd h
  obtain ⟨m1, m2, m3⟩ := m
  obtain ⟨c1, c2, c3, c4⟩ := c
  refine ⟨(lawR K).1.2.2.1, (lawR K).2.1, ⟨b1, hN, m1, fun i hi => ?_⟩, c1, c2, fun k hk => ?_, fun i hi => ?_⟩
  · obtain ⟨f, g, t, ty, q1, q2, q3, q4, q5, q6, q7, q8⟩ := b3 i hi
    obtain ⟨r1, r2, r3, r4⟩ := m3 i hi
    exact ⟨f, g, t, ty, r2.trans q1, r3.trans q2, r4.trans q3, q4, q5, q6, wfR_ext _ _ _ _ (fun i i1 i2 => ⟨(m2 i (by omega)).1.symm, (m2 i (by omega)).2.symm⟩) q7, fun hq => wfR_ext _ _ _ _ (fun i i1 i2 => ⟨(m2 i (by omega)).1.symm, (m2 i (by omega)).2.symm⟩) (q8 hq)⟩
  · show y 28 k = cc (y 221 k) (y 222 k)
    rw [(m2 k hk).1, (m2 k hk).2]
    exact c3 k hk
  · obtain ⟨r1, r2, r3, r4⟩ := m3 i hi
    show y 29 i = 10010 + y 217 i ∧ y 30 i = y 218 i ∧ y 31 i = y 219 i ∧ y 32 i = y 220 i
    rw [r1, r2, r3, r4]
    exact c4 i hi
theorem plan_new {n : Int} (h : (lnsR 1 K n).1.1 = 0) (h10 : n ≤ 10) (h6 : y 208 6 = n) (e1 : y 208 32 = ((lnsR 1 K n).2.1 : Int)) (e2 : y 35 6 = ((lnsR 1 K n).2.1 : Int)) (c : ∀ j, j < (lnsR 1 K n).2.1 → CRx 1 K 35 ((lnsR 1 K n).2.2 j) j y) (m : ∀ j, j < (lnsR 1 K n).2.1 → y 224 (4 * j) = K ((lnsR 1 K n).2.2 j + 1) ∧ y 224 (4 * j + 1) = K ((lnsR 1 K n).2.2 j + 3) ∧ y 224 (4 * j + 2) = K ((lnsR 1 K n).2.2 j + 4) - 10019 ∧ y 224 (4 * j + 3) = (if K ((lnsR 1 K n).2.2 j + 4) = 10022 then 8 * K ((lnsR 1 K n).2.2 j + 6) + K ((lnsR 1 K n).2.2 j + 5) else K ((lnsR 1 K n).2.2 j + 5))) : iPl 17 y y := by
  obtain ⟨o1, o2⟩ := lns_ok h
  refine ⟨(lnsR 1 K n).2.1, e1, ⟨o1, by rw [h6]; exact h10, fun l hl => ?_⟩, e2, fun l hl => ?_⟩
  · obtain ⟨m1, m2, m3, m4⟩ := m l hl
    obtain ⟨q1, q2⟩ := lt_mo (o2 l hl)
    rw [m2, m3, m4, h6]
    generalize (lnsR 1 K n).2.2 l = p at *
    refine ⟨⟨q1.1, by omega⟩, ?_⟩
    by_cases c22 : K (p + 4) = 10022
    · rw [if_pos c22]
      omega
    · rw [if_neg c22]
      omega
  · obtain ⟨m1, m2, m3, m4⟩ := m l hl
    obtain ⟨q1, q2⟩ := lt_mo (o2 l hl)
    have cc := c l hl
    unfold CRx at cc
    rw [if_pos rfl] at cc
    obtain ⟨c1, c2, c3, c4, c5⟩ := cc
    show y 36 l = y 224 (4 * l) ∧ y 37 l = y 224 (4 * l + 1) ∧ y 38 l = 10002 + y 224 (4 * l + 2) ∧ (y 224 (4 * l + 2) ≠ 3 → y 39 l = y 224 (4 * l + 3)) ∧ (y 224 (4 * l + 2) = 3 → y 39 l = (y 224 (4 * l + 3)).tmod 8 ∧ y 40 l = (y 224 (4 * l + 3)).tdiv 8)
    rw [m1, m2, m3, m4]
    have c1 : y 36 l = K ((lnsR 1 K n).2.2 l + 1) := c1
    have c2 : y 37 l = K ((lnsR 1 K n).2.2 l + 3) := c2
    have c3 : y 38 l = K ((lnsR 1 K n).2.2 l + 4) - 17 := c3
    have c4 : y 39 l = K ((lnsR 1 K n).2.2 l + 5) := c4
    have c5 : K ((lnsR 1 K n).2.2 l + 4) = 10022 → y 40 l = K ((lnsR 1 K n).2.2 l + 6) := c5
    generalize (lnsR 1 K n).2.2 l = p at *
    refine ⟨c1, c2, by omega, fun t => ?_, fun t => ?_⟩
    · rw [if_neg (by omega)]; exact c4
    · have c22 : K (p + 4) = 10022 := by omega
      have c6 := c5 c22
      rw [if_pos c22, Int.tmod_eq_emod_of_nonneg (by omega), Int.tdiv_eq_ediv_of_nonneg (by omega)]
      omega
theorem tab_new {n : Int} (h : (lnsR 3 K n).1.1 = 0) (e1 : y 208 37 = ((lnsR 3 K n).2.1 : Int)) (e2 : y 42 6 = ((lnsR 3 K n).2.1 : Int)) (c : ∀ j, j < (lnsR 3 K n).2.1 → CRx 3 K 42 ((lnsR 3 K n).2.2 j) j y) (m : ∀ j, j < (lnsR 3 K n).2.1 → y 227 (3 * j) = K ((lnsR 3 K n).2.2 j + 1) ∧ y 227 (3 * j + 1) = K ((lnsR 3 K n).2.2 j + 3) ∧ y 227 (3 * j + 2) = K ((lnsR 3 K n).2.2 j + 5)) : iTb 17 y y := by
  obtain ⟨o1, o2⟩ := lns_ok h
  refine ⟨(lnsR 3 K n).2.1, o1, e1, e2, fun l hl => ?_⟩
  obtain ⟨m1, m2, m3⟩ := m l hl
  have cc := c l hl
  unfold CRx at cc
  rw [if_neg (by decide), if_neg (by decide)] at cc
  show y 43 l = y 227 (3 * l) ∧ y 46 l = y 227 (3 * l + 1) ∧ y 47 l = y 227 (3 * l + 2)
  rw [m1, m2, m3]
  exact cc
theorem Inv_fail (hI : Inv v) {f p : Int} (h1 : y 16 8 = 0) (h2 : y 16 11 = f) (h3 : y 16 12 = p) (hc : fTx v y) (g1 : y' 208 10 = 0) (g2 : y' 208 30 = f) (g3 : y' 208 31 = p) (hm : fM0 y y') : Inv y' ∧ y' 10 = v 10 := by
  obtain ⟨c1, c2⟩ := hc
  obtain ⟨m1, m2, m3, m4, m5, m6⟩ := hm
  have e16 : y' 16 = y 16 := m1 16 (by decide) (by omega)
  refine ⟨Inv_T9 hI (fun a k s ne => ?_) ⟨0, by decide, by rw [e16, h1]; rfl, by rw [g1]; rfl, fun k hk => absurd hk (by omega)⟩ ⟨by rw [e16, h2, g2], by rw [e16, h3, g3]⟩, (m1 10 (by decide) (by omega)).trans (c1 10 (by decide) (by omega))⟩
  have b := sIn_b s
  have n := nTF ne
  by_cases c8 : a = 208
  · subst c8
    have l := sB_m b
    have n' := n.1 rfl
    rw [m6 k l.1 n'.1 l.2.1 l.2.2.1 l.2.2.2.1 l.2.2.2.2.1 l.2.2.2.2.2.1 l.2.2.2.2.2.2.1 l.2.2.2.2.2.2.2.1 l.2.2.2.2.2.2.2.2.1 l.2.2.2.2.2.2.2.2.2.1 l.2.2.2.2.2.2.2.2.2.2.1 n'.2.1 n'.2.2, c1 208 (by decide) (by omega)]
  · by_cases c6 : a = 16
    · subst c6
      have n' := n.2 rfl
      rw [e16]
      exact c2 k n'.1 n'.2.1 n'.2.2
    · have hv : y a = v a := c1 a c6 b.1.2.2.2.1
      rw [← hv]
      exact md_eq b (fun d => by rw [m1 a c8 d]) (fun d1 d2 d3 => m2 a k d1 d2 d3) (fun d1 d2 => by rcases d1 with rfl | rfl; exact (m3 k d2).1; exact (m3 k d2).2) (fun d1 d2 => by subst d1; exact m4 k d2) (fun d1 d2 => by subst d1; exact m5 k d2)
theorem c_text9 (hz : Lay z) (hI : Inv v) {q : Int} (hq : ¬ (0 ≤ q ∧ q ≤ 3)) : CallOk 40 188 [.inl q] z v := by
  unfold CallOk
  refine Eq.mpr (e_tx9 (d := 98) hz hq) ⟨⟨_, rfl⟩, rom_rf hz, by rw [up_off _ _ _ (by decide), up_off _ _ _ (by decide), up_off _ _ _ (by decide)], Eq.mpr (m_tx9 (d := 98) hz hq) ?_⟩
  have r := Inv_fail (f := 0) (p := -1) (y := up (up (up v 16 8 0) 16 11 0) 16 12 (-1)) (y' := up (mI (up (up (up v 16 8 0) 16 11 0) 16 12 (-1))) 208 10 0) hI (by rw [up_ap, if_neg (by decide), up_ap, if_neg (by decide), up_sm]) (by rw [up_ap, if_neg (by decide), up_sm]) (by rw [up_sm]) ⟨fun a q1 q2 => by rw [up_off _ _ _ q1, up_off _ _ _ q1, up_off _ _ _ q1], fun f q1 q2 q3 => by rw [up_ap, if_neg (by omega), up_ap, if_neg (by omega), up_ap, if_neg (by omega)]⟩ (by rw [up_sm]) (by unfold mI; simp -implicitDefEqProofs only [up_ap]; rfl) (by unfold mI; simp -implicitDefEqProofs only [up_ap]; rfl) ?_
  · exact ⟨rfl, rfl, r.1, r.2⟩
  · have e : ∀ a k, a ≠ 208 → up (mI (up (up (up v 16 8 0) 16 11 0) 16 12 (-1))) 208 10 0 a k = up (up (up v 16 8 0) 16 11 0) 16 12 (-1) a k := fun a k h => by
      unfold mI
      rw [up_off _ _ _ h, up_off _ _ _ h, up_off _ _ _ h, up_off _ _ _ h, up_off _ _ _ h, up_off _ _ _ h, up_off _ _ _ h]
    refine ⟨fun a q1 q2 => funext fun k => e a k q1, fun a k q1 q2 q3 => e a k (by omega), fun k hk => ⟨e _ k (by decide), e _ k (by decide)⟩, fun k hk => e _ k (by decide), fun k hk => e _ k (by decide), fun f f0 f10 f11 _ _ _ _ f24 f25 _ _ _ f30 f31 => ?_⟩
    unfold mI
    rw [up_ap, if_neg (by omega), up_ap, if_neg (by omega), up_ap, if_neg (by omega), up_ap, if_neg (by omega), up_ap, if_neg (by omega), up_ap, if_neg (by omega), up_ap, if_neg (by omega)]
theorem c_text0 (hz : Lay z) (hI : Inv v) : CallOk 40 188 [.inl 0] z v := by
  obtain ⟨n, a1, a2, a3, a4⟩ := hI.sc
  obtain ⟨len, t1, t2, t3, t4⟩ := hI.tp
  obtain ⟨q, k, k1, k2⟩ := hI.kr
  obtain ⟨-, -, ⟨h31, h41, h51⟩, h6A, h7B, h8S, h215, -⟩ := hI.cn
  unfold CallOk
  refine e_tx0 (d := 91) hz h31 h41 h51 h6A h7B h8S t2 t1 (τ := v 214) (fun k hk => (t4 k hk).1) (fun k hk => (t4 k hk).2) (fun hl y cL h1 h2 h3 hN f1 f2 => ⟨⟨_, rfl⟩, rom_rf hz, f1 10 (by decide) (by omega) (by omega), ?_⟩) (fun hl y h1 h2 h3 hc => ⟨⟨_, rfl⟩, rom_rf hz, hc.1 10 (by decide) (by omega), ?_⟩)
  · have f : ∀ a, 208 ≤ a → y a = v a := fun a ha => f1 a (by omega) (by omega) (by omega)
    have e8 := f 208 (by decide)
    refine m_tx0 (d := 89) hz (by rw [f 215 (by decide)]; exact h215) (by rw [e8]; exact t3) t1 (τ := v 214) (fun k _ => by rw [f 214 (by decide)]) (fun k hk => (t4 k hk).2) (fun _ y' mL _ g1 g2 g3 m1 m2 m3 m4 m5 m6 m7 => ?_) (fun nl => absurd hl nl)
    have e16 : y' 16 = y 16 := m1 16 (by decide) (by omega)
    refine ⟨rfl, rfl, Inv_T0 hI (fun a k s ne => ?_) (law_new hl hN (LwC_f cL (fun a q1 q2 => m1 a (by omega) (by omega))) mL) ⟨0, by decide, by rw [e16, h1]; rfl, by rw [g1]; rfl, fun k hk => absurd hk (by omega)⟩ ⟨by rw [e16, h2, g2], by rw [e16, h3, g3]⟩, (m1 10 (by decide) (by omega)).trans (f1 10 (by decide) (by omega) (by omega))⟩
    have b := sIn_b s
    have nL : ¬ sLw a k := fun q => ne (.inl q)
    have n := nTF (fun q => ne (.inr q))
    clear ne s
    by_cases c8 : a = 208
    · subst c8
      have l := sB_m b
      have n' := n.1 rfl
      rw [m7 k l.1 n'.1 l.2.1 l.2.2.1 l.2.2.2.1 l.2.2.2.2.1 l.2.2.2.2.2.1 l.2.2.2.2.2.2.1 l.2.2.2.2.2.2.2.1 l.2.2.2.2.2.2.2.2.1 l.2.2.2.2.2.2.2.2.2.1 l.2.2.2.2.2.2.2.2.2.2.1 n'.2.1 n'.2.2, e8]
    · by_cases c6 : a = 16
      · subst c6
        have n' := n.2 rfl
        rw [e16]
        exact f2 k n'.1 n'.2.1 n'.2.2
      · have n27 : a < 27 ∨ 32 < a := by
          by_cases q : 27 ≤ a ∧ a ≤ 32
          · exact absurd (.inl q) nL
          · clear b nL n; omega
        have hv : y a = v a := f1 a c6 n27 b.1.2.2.2.1
        have b16 := b.2.2.2.2.2.2.2.1
        have b17 := b.2.2.2.2.2.2.2.2.1
        have b21 := b.2.2.2.2.2.2.2.2.2.1
        rw [← hv]
        refine md_eq b (fun d => ?_) (fun d1 d2 d3 => ?_) (fun d1 d2 => ?_) (fun d1 d2 => by subst d1; exact m5 k d2) (fun d1 d2 => by subst d1; exact m6 k d2)
        · by_cases q : a = 216
          · subst q
            exact absurd (show sLw 216 k from .inr (.inl ⟨rfl, b16.resolve_left (fun h => h rfl)⟩)) nL
          · rw [m1 a c8 (by clear b b16 b17 b21 nL n; omega)]
        · exact absurd (show sLw a k from .inr (.inr (.inl ⟨⟨d1, d2⟩, by clear b b16 b21 nL n; omega⟩))) nL
        · exact absurd (show sLw a k from .inr (.inr (.inr ⟨d1, by clear b b16 b17 nL n; omega⟩))) nL
  · have f : ∀ a, 208 ≤ a → y a = v a := fun a ha => hc.1 a (by omega) (by omega)
    have e8 := f 208 (by decide)
    exact m_tx0 (d := 89) hz (by rw [f 215 (by decide)]; exact h215) (by rw [e8]; exact t3) t1 (τ := v 214) (fun k _ => by rw [f 214 (by decide)]) (fun k hk => (t4 k hk).2) (fun h => absurd h hl) (fun _ y' g1 g2 g3 hm => by
      have r := Inv_fail hI h1 h2 h3 hc g1 g2 g3 hm
      exact ⟨rfl, rfl, r.1, r.2⟩)
theorem c_text1 (hz : Lay z) (hI : Inv v) : CallOk 40 188 [.inl 1] z v := by
  obtain ⟨n, a1, a2, a3, a4⟩ := hI.sc
  obtain ⟨len, t1, t2, t3, t4⟩ := hI.tp
  obtain ⟨q, k, k1, k2⟩ := hI.kr
  obtain ⟨-, -, ⟨h31, h41, h51⟩, h6A, h7B, h8S, h215, -⟩ := hI.cn
  unfold CallOk
  refine e_tx1 (d := 91) hz h31 h41 h51 h6A h7B h8S t2 t1 (τ := v 214) (fun k hk => (t4 k hk).1) (fun k hk => (t4 k hk).2) (n := (n : Int)) (by omega) a3.2.1 (fun hl y e6 cR h1 h2 h3 h5 f1 f2 => ⟨⟨_, rfl⟩, rom_rf hz, f1 10 (by decide) (by omega) (by omega), ?_⟩) (fun hl y h1 h2 h3 hc => ⟨⟨_, rfl⟩, rom_rf hz, hc.1 10 (by decide) (by omega), ?_⟩)
  · have f : ∀ a, 208 ≤ a → y a = v a := fun a ha => f1 a (by omega) (by omega) (by omega)
    have e8 := f 208 (by decide)
    refine m_tx1 (d := 89) hz (by rw [f 215 (by decide)]; exact h215) (by rw [e8]; exact t3) t1 (τ := v 214) (fun k _ => by rw [f 214 (by decide)]) (fun k hk => (t4 k hk).2) (n := (n : Int)) (by omega) (by rw [e8]; exact a2) (fun _ y' g32 g03 mR g1 g2 g3 m1 m3 m4 m6 m7 => ?_) (fun nl => absurd hl nl)
    have e16 : y' 16 = y 16 := m1 16 (by decide) (by omega)
    have n6 : y' 208 6 = (n : Int) := by rw [m7 6 (by decide) (by decide) (by decide) (by decide) (by decide) (by decide) (by decide) (by decide) (by decide) (by decide) (by decide) (by decide) (by decide) (by decide) (by decide) (by decide), e8]; exact a2
    have g : ∀ a, a < 208 → y' a = y a := fun a ha => m1 a (by omega) (by omega)
    refine ⟨rfl, rfl, Inv_T1 hI (fun a k s ne => ?_) (plan_new hl (by omega) n6 g32 (by rw [g 35 (by decide)]; exact e6) (fun j hj => CRx_f (cR j hj) (fun a q1 q2 => g a (by omega))) mR) ⟨q, 0, KR0 k1 (fun a q1 q2 => (g a (by omega)).trans (f1 a (by omega) (by omega) (by omega))) (by rw [e16, f2 6 (by decide) (by decide) (by decide) (by decide)]) (by rw [e16, h5]), g03⟩ ⟨0, by decide, by rw [e16, h1]; rfl, by rw [g1]; rfl, fun k hk => absurd hk (by omega)⟩ ⟨by rw [e16, h2, g2], by rw [e16, h3, g3]⟩, (m1 10 (by decide) (by omega)).trans (f1 10 (by decide) (by omega) (by omega))⟩
    have b := sIn_b s
    have n1 : ¬ (35 ≤ a ∧ a ≤ 41) := fun q => ne (.inl q)
    have n2 : ¬ (a = 208 ∧ (k = 32 ∨ k = 3)) := fun q => ne (.inr (.inl q))
    have n3 : a ≠ 224 := fun q => ne (.inr (.inr (.inl q)))
    have n4 : ¬ (a = 16 ∧ k = 5) := fun q => ne (.inr (.inr (.inr (.inl q))))
    have n := nTF (fun q => ne (.inr (.inr (.inr (.inr q)))))
    clear ne s
    by_cases c8 : a = 208
    · subst c8
      have l := sB_m b
      have n' := n.1 rfl
      rw [m7 k (fun q => n2 ⟨rfl, .inr q⟩) (fun q => n2 ⟨rfl, .inl q⟩) l.1 n'.1 l.2.1 l.2.2.1 l.2.2.2.1 l.2.2.2.2.1 l.2.2.2.2.2.1 l.2.2.2.2.2.2.1 l.2.2.2.2.2.2.2.1 l.2.2.2.2.2.2.2.2.1 l.2.2.2.2.2.2.2.2.2.1 l.2.2.2.2.2.2.2.2.2.2.1 n'.2.1 n'.2.2, e8]
    · by_cases c6 : a = 16
      · subst c6
        have n' := n.2 rfl
        rw [e16]
        exact f2 k (fun q => n4 ⟨rfl, q⟩) n'.1 n'.2.1 n'.2.2
      · have hv : y a = v a := f1 a c6 (by clear b n n2 n3 n4; omega) b.1.2.2.2.1
        rw [← hv]
        exact md_eq b (fun d => by rw [m1 a c8 d]) (fun d1 d2 d3 => m3 a k d1 d2 d3) (fun d1 d2 => by rcases d1 with rfl | rfl; exact (m4 k d2).1; exact (m4 k d2).2) (fun d1 _ => absurd d1 n3) (fun d1 d2 => by subst d1; exact m6 k d2)
  · have f : ∀ a, 208 ≤ a → y a = v a := fun a ha => hc.1 a (by omega) (by omega)
    have e8 := f 208 (by decide)
    exact m_tx1 (d := 89) hz (by rw [f 215 (by decide)]; exact h215) (by rw [e8]; exact t3) t1 (τ := v 214) (fun k _ => by rw [f 214 (by decide)]) (fun k hk => (t4 k hk).2) (n := (n : Int)) (by omega) (by rw [e8]; exact a2) (fun h => absurd h hl) (fun _ y' g1 g2 g3 hm => by
      have r := Inv_fail hI h1 h2 h3 hc g1 g2 g3 hm
      exact ⟨rfl, rfl, r.1, r.2⟩)
theorem c_text2 (hz : Lay z) (hI : Inv v) : CallOk 40 188 [.inl 2] z v := by
  obtain ⟨n, a1, a2, a3, a4⟩ := hI.sc
  obtain ⟨len, t1, t2, t3, t4⟩ := hI.tp
  obtain ⟨q, k, k1, k2⟩ := hI.kr
  obtain ⟨-, -, ⟨h31, h41, h51⟩, h6A, h7B, h8S, h215, -⟩ := hI.cn
  unfold CallOk
  refine e_tx2 (d := 91) hz h31 h41 h51 h6A h7B h8S t2 t1 (τ := v 214) (fun k hk => (t4 k hk).1) (fun k hk => (t4 k hk).2) (n := (n : Int)) (by omega) a3.2.1 a3 (fun hl y rS e5 h1 h2 h3 h5 f1 f17 f2 => ⟨⟨_, rfl⟩, rom_rf hz, f1 10 (by decide) (by decide) (by decide) (by decide) (by omega), ?_⟩) (fun hl y h1 h2 h3 hc => ⟨⟨_, rfl⟩, rom_rf hz, hc.1 10 (by decide) (by omega), ?_⟩)
  · have f : ∀ a, 208 ≤ a → y a = v a := fun a ha => f1 a (by omega) (by omega) (by omega) (by omega) (by omega)
    have e8 := f 208 (by decide)
    refine m_tx2 (d := 89) hz (by rw [f 215 (by decide)]; exact h215) (by rw [e8]; exact t3) t1 (τ := v 214) (fun k _ => by rw [f 214 (by decide)]) (fun k hk => (t4 k hk).2) (n := (n : Int)) (by omega) (by rw [e8]; exact a2) (fun _ y' g34 g03 m9 g1 g2 g3 m1 m3 m4 m5 m6 m7 => ?_) (fun nl => absurd hl nl)
    have e16 : y' 16 = y 16 := m1 16 (by decide) (by decide) (by omega)
    have n6 : y' 208 6 = (n : Int) := by rw [m7 6 (by decide) (by decide) (by decide) (by decide) (by decide) (by decide) (by decide) (by decide) (by decide) (by decide) (by decide) (by decide) (by decide) (by decide) (by decide) (by decide), e8]; exact a2
    have g : ∀ a, a < 208 → y' a = y a := fun a ha => m1 a (by omega) (by omega) (by omega)
    have e212 : y' 212 = v 212 := (m1 212 (by decide) (by decide) (by omega)).trans (f 212 (by decide))
    rw [f 209 (by decide)] at m9
    have key : ∀ a k, sB a k → (a < 17 ∨ 26 < a) → a ≠ 209 → ¬ (a = 16 ∧ k = 5) → ((a = 208 → k ≠ 10 ∧ k ≠ 30 ∧ k ≠ 31) ∧ (a = 16 → k ≠ 8 ∧ k ≠ 11 ∧ k ≠ 12)) → ¬ (a = 208 ∧ (k = 34 ∨ k = 3)) → y' a k = v a k := by
      intro a k b q1 q2 q4 n n2
      by_cases c8 : a = 208
      · subst c8
        have l := sB_m b
        have n' := n.1 rfl
        rw [m7 k (fun q => n2 ⟨rfl, .inr q⟩) (fun q => n2 ⟨rfl, .inl q⟩) l.1 n'.1 l.2.1 l.2.2.1 l.2.2.2.1 l.2.2.2.2.1 l.2.2.2.2.2.1 l.2.2.2.2.2.2.1 l.2.2.2.2.2.2.2.1 l.2.2.2.2.2.2.2.2.1 l.2.2.2.2.2.2.2.2.2.1 l.2.2.2.2.2.2.2.2.2.2.1 n'.2.1 n'.2.2, e8]
      · by_cases c6 : a = 16
        · subst c6
          have n' := n.2 rfl
          rw [e16]
          exact f2 k (fun q => q4 ⟨rfl, q⟩) n'.1 n'.2.1 n'.2.2
        · have hv : y a = v a := f1 a c6 (by clear b n n2 q4; omega) (by clear b n n2 q4; omega) (by clear b n n2 q4; omega) b.1.2.2.2.1
          rw [← hv]
          exact md_eq b (fun d => by rw [m1 a c8 q2 d]) (fun d1 d2 d3 => m3 a k d1 d2 d3) (fun d1 d2 => by rcases d1 with rfl | rfl; exact (m4 k d2).1; exact (m4 k d2).2) (fun d1 d2 => by subst d1; exact m5 k d2) (fun d1 d2 => by subst d1; exact m6 k d2)
    obtain ⟨o1, o2⟩ := lns_ok hl
    refine ⟨rfl, rfl, Inv_T2 hI (fun a k s ne => ?_) ⟨n, a1, n6, ?_, ?_⟩ (aPl hI.pl (fun a k s => ?_)) ?_ ⟨q, 0, KR0 k1 (fun a q1 q2 => (g a (by omega)).trans (f1 a (by omega) (by omega) (by omega) (by omega) (by omega))) (by rw [e16, f2 6 (by decide) (by decide) (by decide) (by decide)]) (by rw [e16, h5]), g03⟩ ⟨0, by decide, by rw [e16, h1]; rfl, by rw [g1]; rfl, fun k hk => absurd hk (by omega)⟩ ⟨by rw [e16, h2, g2], by rw [e16, h3, g3]⟩, (m1 10 (by decide) (by decide) (by omega)).trans (f1 10 (by decide) (by decide) (by decide) (by decide) (by omega))⟩
    · have b := sIn_b s
      have p1 : ¬ (18 ≤ a ∧ a ≤ 26) := fun q => ne (.inl q)
      have p2 : a ≠ 209 := fun q => ne (.inr (.inl q))
      have p3 : ¬ (a = 17 ∧ k = 5) := fun q => ne (.inr (.inr (.inl q)))
      have p4 : ¬ (a = 208 ∧ (k = 34 ∨ k = 3)) := fun q => ne (.inr (.inr (.inr (.inl q))))
      have p5 : ¬ (a = 16 ∧ k = 5) := fun q => ne (.inr (.inr (.inr (.inr (.inl q)))))
      have p6 := nTF (fun q => ne (.inr (.inr (.inr (.inr (.inr q))))))
      have p7 := b.2.2.2.2.2.2.2.2.2.2.1
      exact key a k b (by clear ne s b p2 p4 p5 p6; omega) p2 p5 p6 p4
    · rw [m9, e212]
      exact RS_fr (fun a q1 q2 => g a (by omega)) rS
    · rw [m9]
      exact VR_grR _ 0 a4 (fun i hi => o2 i (by omega))
    · have b := bPl s
      unfold sPl at s
      refine key a k b (by clear b; omega) (by clear b; omega) (by clear b; omega) ⟨?_, ?_⟩ (by clear b; omega)
      · clear b; intro q; refine ⟨?_, ?_, ?_⟩ <;> omega
      · clear b; intro q; refine ⟨?_, ?_, ?_⟩ <;> omega
    · show y' 17 5 = y' 208 34
      rw [g 17 (by decide), e5, g34]
  · have f : ∀ a, 208 ≤ a → y a = v a := fun a ha => hc.1 a (by omega) (by omega)
    have e8 := f 208 (by decide)
    exact m_tx2 (d := 89) hz (by rw [f 215 (by decide)]; exact h215) (by rw [e8]; exact t3) t1 (τ := v 214) (fun k _ => by rw [f 214 (by decide)]) (fun k hk => (t4 k hk).2) (n := (n : Int)) (by omega) (by rw [e8]; exact a2) (fun h => absurd h hl) (fun _ y' g1 g2 g3 hm => by
      have r := Inv_fail hI h1 h2 h3 hc g1 g2 g3 hm
      exact ⟨rfl, rfl, r.1, r.2⟩)
theorem c_text3 (hz : Lay z) (hI : Inv v) : CallOk 40 188 [.inl 3] z v := by
  obtain ⟨n, a1, a2, a3, a4⟩ := hI.sc
  obtain ⟨len, t1, t2, t3, t4⟩ := hI.tp
  obtain ⟨q, k, k1, k2⟩ := hI.kr
  obtain ⟨-, -, ⟨h31, h41, h51⟩, h6A, h7B, h8S, h215, -⟩ := hI.cn
  unfold CallOk
  refine e_tx3 (d := 91) hz h31 h41 h51 h6A h7B h8S t2 t1 (τ := v 214) (fun k hk => (t4 k hk).1) (fun k hk => (t4 k hk).2) (n := (n : Int)) (by omega) a3.2.1 (fun hl y e6 cR h1 h2 h3 h5 f1 f2 => ⟨⟨_, rfl⟩, rom_rf hz, f1 10 (by decide) (by omega) (by omega), ?_⟩) (fun hl y h1 h2 h3 hc => ⟨⟨_, rfl⟩, rom_rf hz, hc.1 10 (by decide) (by omega), ?_⟩)
  · have f : ∀ a, 208 ≤ a → y a = v a := fun a ha => f1 a (by omega) (by omega) (by omega)
    have e8 := f 208 (by decide)
    refine m_tx3 (d := 89) hz (by rw [f 215 (by decide)]; exact h215) (by rw [e8]; exact t3) t1 (τ := v 214) (fun k _ => by rw [f 214 (by decide)]) (fun k hk => (t4 k hk).2) (n := (n : Int)) (by omega) (by rw [e8]; exact a2) (fun _ y' g37 g03 mR g1 g2 g3 m1 m3 m4 m5 m7 => ?_) (fun nl => absurd hl nl)
    have e16 : y' 16 = y 16 := m1 16 (by decide) (by omega)
    have g : ∀ a, a < 208 → y' a = y a := fun a ha => m1 a (by omega) (by omega)
    refine ⟨rfl, rfl, Inv_T3 hI (fun a k s ne => ?_) (tab_new hl g37 (by rw [g 42 (by decide)]; exact e6) (fun j hj => CRx_f (cR j hj) (fun a q1 q2 => g a (by omega))) mR) ⟨q, 0, KR0 k1 (fun a q1 q2 => (g a (by omega)).trans (f1 a (by omega) (by omega) (by omega))) (by rw [e16, f2 6 (by decide) (by decide) (by decide) (by decide)]) (by rw [e16, h5]), g03⟩ ⟨0, by decide, by rw [e16, h1]; rfl, by rw [g1]; rfl, fun k hk => absurd hk (by omega)⟩ ⟨by rw [e16, h2, g2], by rw [e16, h3, g3]⟩, (m1 10 (by decide) (by omega)).trans (f1 10 (by decide) (by omega) (by omega))⟩
    have b := sIn_b s
    have n1 : ¬ (42 ≤ a ∧ a ≤ 48) := fun q => ne (.inl q)
    have n2 : ¬ (a = 208 ∧ (k = 37 ∨ k = 3)) := fun q => ne (.inr (.inl q))
    have n3 : a ≠ 227 := fun q => ne (.inr (.inr (.inl q)))
    have n4 : ¬ (a = 16 ∧ k = 5) := fun q => ne (.inr (.inr (.inr (.inl q))))
    have n := nTF (fun q => ne (.inr (.inr (.inr (.inr q)))))
    clear ne s
    by_cases c8 : a = 208
    · subst c8
      have l := sB_m b
      have n' := n.1 rfl
      rw [m7 k (fun q => n2 ⟨rfl, .inr q⟩) (fun q => n2 ⟨rfl, .inl q⟩) l.1 n'.1 l.2.1 l.2.2.1 l.2.2.2.1 l.2.2.2.2.1 l.2.2.2.2.2.1 l.2.2.2.2.2.2.1 l.2.2.2.2.2.2.2.1 l.2.2.2.2.2.2.2.2.1 l.2.2.2.2.2.2.2.2.2.1 l.2.2.2.2.2.2.2.2.2.2.1 n'.2.1 n'.2.2, e8]
    · by_cases c6 : a = 16
      · subst c6
        have n' := n.2 rfl
        rw [e16]
        exact f2 k (fun q => n4 ⟨rfl, q⟩) n'.1 n'.2.1 n'.2.2
      · have hv : y a = v a := f1 a c6 (by clear b n n2 n3 n4; omega) b.1.2.2.2.1
        rw [← hv]
        exact md_eq b (fun d => by rw [m1 a c8 d]) (fun d1 d2 d3 => m3 a k d1 d2 d3) (fun d1 d2 => by rcases d1 with rfl | rfl; exact (m4 k d2).1; exact (m4 k d2).2) (fun d1 d2 => by subst d1; exact m5 k d2) (fun d1 _ => absurd d1 n3)
  · have f : ∀ a, 208 ≤ a → y a = v a := fun a ha => hc.1 a (by omega) (by omega)
    have e8 := f 208 (by decide)
    exact m_tx3 (d := 89) hz (by rw [f 215 (by decide)]; exact h215) (by rw [e8]; exact t3) t1 (τ := v 214) (fun k _ => by rw [f 214 (by decide)]) (fun k hk => (t4 k hk).2) (n := (n : Int)) (by omega) (by rw [e8]; exact a2) (fun h => absurd h hl) (fun _ y' g1 g2 g3 hm => by
      have r := Inv_fail hI h1 h2 h3 hc g1 g2 g3 hm
      exact ⟨rfl, rfl, r.1, r.2⟩)
theorem c_text (hz : Lay z) (hI : Inv v) {q : Int} : CallOk 40 188 [.inl q] z v := by
  by_cases c : 0 ≤ q ∧ q ≤ 3
  · have c' : q = 0 ∨ q = 1 ∨ q = 2 ∨ q = 3 := by omega
    rcases c' with rfl | rfl | rfl | rfl
    · exact c_text0 hz hI
    · exact c_text1 hz hI
    · exact c_text2 hz hI
    · exact c_text3 hz hI
  · exact c_text9 hz hI c
end TX
