/-! ===== calls that change the scene ===== -/
set_option maxHeartbeats 1000000
section SC
variable {z : xZ} {v y y' v' : xV}
theorem KR0 {q k : Nat} {n n' : Int} {L L' G G' : Nat → Int} (h : KR q k n L G v) (e : ∀ a, 154 ≤ a → a ≤ 207 → y a = v a) (e6 : y 16 6 = v 16 6) (e5 : y 16 5 = 0) : KR q 0 n' L' G' y := ⟨h.1, by omega, e6.trans h.2.2.1, e5, fun i hi => by rw [e _ (by omega) (by omega)]; exact h.2.2.2.2.1 i hi, fun j hj => absurd hj (by omega)⟩
theorem KR_f {q k : Nat} {n : Int} {L G : Nat → Int} (h : KR q k n L G v) (e : ∀ a, 154 ≤ a → a ≤ 207 → y a = v a) (e16 : y 16 = v 16) : KR q k n L G y := by
  obtain ⟨h1, h2, h3, h4, h5, h6⟩ := h
  refine ⟨h1, h2, by rw [e16]; exact h3, by rw [e16]; exact h4, fun i hi => by rw [e _ (by omega) (by omega)]; exact h5 i hi, fun j hj => ⟨RS_fr (fun a a1 a2 => e a ?_ ?_) (h6 j hj).1, (h6 j hj).2⟩⟩
  · unfold kix at a1
    omega
  · have m : (q + 6 - k + j) % 6 < 6 := Nat.mod_lt _ (by decide)
    unfold kix at a2
    omega
theorem Inv_S2 (hI : Inv v) {n' : Nat} {L' R' : Nat → Int} (hn : n' ≤ 10) (hge : v 208 6 ≤ (n' : Int)) (h6 : v' 208 6 = (n' : Int)) (hL : v' 212 = L') (hR : ∀ t, t < 247 → v' 209 t = R' t) (hRS : RS 18 0 n' L' R' v') (hVR : VR R') (hB : v' 69 = v' 213) (hK : iKR v') (hf : ∀ a k, sB a k → (a < 18 ∨ 26 < a) → a ≠ 69 → a ≠ 209 → a ≠ 210 → a ≠ 212 → a ≠ 213 → (a < 154 ∨ 207 < a) → ¬ (a = 16 ∧ (k = 5 ∨ k = 6)) → ¬ (a = 208 ∧ (k = 3 ∨ k = 6)) → v' a k = v a k) : Inv v' := by
  refine Inv_S hI (fun a k s ne => ?_) ⟨n', hn, h6, RS_ext (fun i _ => by rw [hL]) (fun t ht => (hR t ht).symm) hRS, VR_ext (fun t ht => (hR t ht).symm) hVR⟩ ?_ hB hK
  · have b := sIn_b s
    have b1 := b.2.2.2.1
    have b2 := b.2.2.2.2.1
    unfold sSc sPl sBk sKR at ne
    exact hf a k b (by clear b s; omega) (by clear b s; omega) (by clear b s; omega) (by clear b s; omega) (by clear b s; omega) (by clear b s; omega) (by clear b s; omega) (by clear b s; omega) (by clear b s; omega)
  · have f : ∀ a k, sPl a k → ¬ (a = 208 ∧ k = 6) → v' a k = v a k := fun a k s q => by
      have b := bPl s
      unfold sPl at s
      exact hf a k b (by clear b; omega) (by clear b; omega) (by clear b; omega) (by clear b; omega) (by clear b; omega) (by clear b; omega) (by clear b; omega) (by clear b; omega) (by clear b; omega)
    exact iPl_c hI.pl (by decide) (by decide) (by rw [h6]; exact hge) (by rw [h6]; omega) (f _ _ (by unfold sPl; omega) (by omega)) (fun k hk => f _ _ (by unfold sPl; omega) (by omega)) (f _ _ (by unfold sPl; omega) (by omega)) (fun j k _ _ _ => f _ _ (by unfold sPl; omega) (by omega))
theorem c_state (hz : Lay z) (hI : Inv v) {x : Int} : CallOk 11 179 [.inl x] z v := by
  obtain ⟨n, a1, a2, a3, a4⟩ := hI.sc
  obtain ⟨q, k, k1, k2⟩ := hI.kr
  have r13 : v 18 13 = v 209 1 := a3.2.2.2.2.2.1
  unfold CallOk
  refine Eq.mpr (e_state (d := 98) hz) ⟨⟨_, rfl⟩, rom_rf hz, by rw [up_off _ _ _ (by decide), up_off _ _ _ (by decide)], Eq.mpr (m_state (d := 99) hz) ⟨rfl, ?_, ?_, ?_⟩⟩
  · rw [up_off _ _ _ (by decide), up_off _ _ _ (by decide), r13]
  · refine Inv_S2 hI (n' := n) (L' := v 212) (R' := udR (v 209) 1 x) a1 (by omega) ?_ ?_ (fun t _ => ?_) (RS_fr (v := up v 18 13 x) (fun a q1 q2 => ?_) (RS_draws a3 x)) (VR_upd a4 (by decide) x) ?_ ⟨q, 0, KR0 k1 (fun a q1 q2 => ?_) ?_ ?_, ?_⟩ (fun a k b q1 q2 q3 q4 q5 q6 q7 q8 q9 => ?_)
    · rw [up_ap, if_neg (by decide), up_off _ _ _ (by decide), up_ap, if_neg (by decide), up_off _ _ _ (by decide), up_off _ _ _ (by decide), a2]
    · rw [up_off _ _ _ (by decide), up_off _ _ _ (by decide), up_off _ _ _ (by decide), up_off _ _ _ (by decide), up_off _ _ _ (by decide)]
    · rw [up_off _ _ _ (by decide), up_row, up_off _ _ _ (by decide), up_off _ _ _ (by decide), up_off _ _ _ (by decide)]
    · rw [up_off _ _ _ (by omega), up_off _ _ _ (by omega), up_off _ _ _ (by omega), up_off _ _ _ (by omega)]
    · rw [up_off _ _ _ (by decide), up_off _ _ _ (by decide), up_off _ _ _ (by decide), up_off _ _ _ (by decide), up_off _ _ _ (by decide), up_off _ _ _ (by decide), up_off _ _ _ (by decide), up_off _ _ _ (by decide), up_off _ _ _ (by decide), up_off _ _ _ (by decide)]
      exact hI.bk
    · rw [up_off _ _ _ (by omega), up_off _ _ _ (by omega), up_off _ _ _ (by omega), up_off _ _ _ (by omega), up_off _ _ _ (by omega)]
    · rw [up_off _ _ _ (by decide), up_off _ _ _ (by decide), up_off _ _ _ (by decide), up_ap, if_neg (by decide), up_off _ _ _ (by decide)]
    · rw [up_off _ _ _ (by decide), up_off _ _ _ (by decide), up_off _ _ _ (by decide), up_sm]
    · rw [up_sm]; rfl
    · have b := sB_00 b
      rw [up_ap, if_neg (by omega), up_ap, if_neg (by omega), up_ap, if_neg (by omega), up_ap, if_neg (by omega), up_ap, if_neg (by omega)]
  · rw [up_off _ _ _ (by decide), up_off _ _ _ (by decide), up_off _ _ _ (by decide), up_off _ _ _ (by decide), up_off _ _ _ (by decide)]
theorem c_seeker (hz : Lay z) (hI : Inv v) {l x w : Int} : CallOk 13 180 [.inl l, .inl x, .inl w] z v := by
  obtain ⟨n, a1, a2, a3, a4⟩ := hI.sc
  obtain ⟨q, k, k1, k2⟩ := hI.kr
  unfold CallOk
  refine e_seeker (d := 97) hz (n := n) a1 (L := v 212) (R := v 209) (B := v 69) ⟨a3, rfl⟩ (fun hc t h1 h2 h3 => ⟨⟨_, rfl⟩, rom_rf hz, h2 10 (by omega) (by decide), ?_⟩) (fun hc => ⟨⟨_, rfl⟩, rom_rf hz, rfl, ?_⟩)
  · have f : ∀ a, 27 ≤ a → t a = v a := fun a ha => h2 a (by omega) (by omega)
    refine m_seeker (d := 97) hz (n := n) a1 (by rw [f 208 (by decide)]; exact a2) (R := v 209) (B := v 69) (L := v 212) ⟨f 209 (by decide), (f 213 (by decide)).trans hI.bk.symm⟩ (f 212 (by decide)) (fun _ t' g1 g2 g3 g4 g5 g6 => ⟨rfl, rfl, ?_, (g3 10 (by decide) (by decide) (by decide)).trans (h2 10 (by omega) (by decide))⟩) (fun nc => absurd hc nc)
    have e16 : t' 16 = udR (v 16) 5 0 := (g3 16 (by decide) (by decide) (by decide)).trans h3
    refine Inv_S2 hI (n' := n + 1) (L' := udR (v 212) n l) (R' := skR (v 209) n x w) hc.2.2 (by omega) g4 g2 (fun t _ => by rw [g1.1]) (RS_fr (fun a q1 q2 => g3 a (by omega) (by omega) (by omega)) h1.1) (VR_sk a4 hc.2.2 hc.2.1.1 hc.2.1.2) ((g3 69 (by decide) (by decide) (by decide)).trans (h1.2.trans g1.2.symm)) ⟨q, 0, KR0 k1 (fun a q1 q2 => (g3 a (by omega) (by omega) (by omega)).trans (h2 a (by omega) (by omega))) (by rw [e16]; rfl) (by rw [e16]; rfl), g5⟩ (fun a k b q1 q2 q3 q4 q5 q6 q7 q8 q9 => ?_)
    have b0 := sB_00 b
    have b8 := sB_228 b
    have b3 := b.1.1
    have b4 := b.1.2.1
    clear b
    by_cases c8 : a = 208
    · subst c8
      rw [g6 k (by omega) (by omega) (by omega), f 208 (by decide)]
    · rw [g3 a c8 q3 q5]
      by_cases c6 : a = 16
      · subst c6
        rw [h3]
        unfold udR
        rw [if_neg (by omega)]
      · rw [h2 a q1 c6]
  · exact m_seeker (d := 97) hz (n := n) a1 a2 (R := v 209) (B := v 213) (L := v 212) ⟨rfl, rfl⟩ rfl (fun c => absurd c hc) (fun _ => ⟨rfl, rfl, Inv_told hI, up_off _ _ _ (by decide)⟩)
theorem c_set (hz : Lay z) (hI : Inv v) {l x w : Int} : CallOk 16 183 [.inl l, .inl x, .inl w] z v := by
  obtain ⟨n, a1, a2, a3, a4⟩ := hI.sc
  obtain ⟨q, k, k1, k2⟩ := hI.kr
  unfold CallOk
  refine e_set (d := 97) hz (n := n) a1 (L := v 212) (R := v 209) (B := v 69) ⟨a3, rfl⟩ (fun hc t h1 h2 h3 => ⟨⟨_, rfl⟩, rom_rf hz, h2 10 (by omega) (by decide), ?_⟩) (fun hc => ⟨⟨_, rfl⟩, rom_rf hz, rfl, ?_⟩)
  · have f : ∀ a, 27 ≤ a → t a = v a := fun a ha => h2 a (by omega) (by omega)
    refine m_set (d := 98) hz (n := n) a1 (by rw [f 208 (by decide)]; exact a2) (R := v 209) (B := v 69) (L := v 212) ⟨f 209 (by decide), (f 213 (by decide)).trans hI.bk.symm⟩ (f 212 (by decide)) (fun _ t' g1 g2 g3 g5 g6 => ⟨rfl, rfl, ?_, (g3 10 (by decide) (by decide) (by decide)).trans (h2 10 (by omega) (by decide))⟩) (fun nc => absurd hc nc)
    have e16 : t' 16 = udR (v 16) 5 0 := (g3 16 (by decide) (by decide) (by decide)).trans h3
    refine Inv_S2 hI (n' := n) (L' := setL (v 212) l x w) (R' := setR (v 209) l x w) a1 (by omega) (by rw [g6 6 (by decide) (by decide), f 208 (by decide)]; exact a2) g2 (fun t _ => by rw [g1.1]) (RS_fr (fun a q1 q2 => g3 a (by omega) (by omega) (by omega)) h1.1) (VR_set a4) ((g3 69 (by decide) (by decide) (by decide)).trans (h1.2.trans g1.2.symm)) ⟨q, 0, KR0 k1 (fun a q1 q2 => (g3 a (by omega) (by omega) (by omega)).trans (h2 a (by omega) (by omega))) (by rw [e16]; rfl) (by rw [e16]; rfl), g5⟩ (fun a k b q1 q2 q3 q4 q5 q6 q7 q8 q9 => ?_)
    have b0 := sB_00 b
    have b8 := sB_228 b
    have b3 := b.1.1
    have b4 := b.1.2.1
    clear b
    by_cases c8 : a = 208
    · subst c8
      rw [g6 k (by omega) (by omega), f 208 (by decide)]
    · rw [g3 a c8 q3 q5]
      by_cases c6 : a = 16
      · subst c6
        rw [h3]
        unfold udR
        rw [if_neg (by omega)]
      · rw [h2 a q1 c6]
  · exact m_set (d := 98) hz (n := n) a1 a2 (R := v 209) (B := v 213) (L := v 212) ⟨rfl, rfl⟩ rfl (fun c => absurd c hc) (fun _ => ⟨rfl, rfl, Inv_told hI, up_off _ _ _ (by decide)⟩)
theorem Inv_AB (hI : Inv v) {n q k : Nat} {R' G' : Nat → Int} (a1 : n ≤ 10) (a2 : v 208 6 = (n : Int)) (h3 : frA v y) (g4 : frB y y') (hRS : RS 18 0 n (v 212) R' y) (hVR : VR R') (hR : y' 209 = R') (hB : y 69 = y' 213) (hK : KR q k n (v 212) G' y) (hG : y' 210 = G') (h8 : y' 208 3 = (k : Int)) : Inv y' := by
  have f : ∀ a, 208 ≤ a → y a = v a := fun a ha => h3.1 a (by omega) (by omega) (by omega) (by omega) (by omega) (by omega)
  have e6 : y' 208 6 = (n : Int) := by rw [g4.2 6 (by decide) (by decide), f 208 (by decide)]; exact a2
  have e212 : y' 212 = v 212 := by rw [g4.1 212 (by decide) (by decide) (by decide) (by decide) (by decide) (by decide), f 212 (by decide)]
  have g : ∀ a, a < 208 → y' a = y a := fun a ha => g4.1 a (by omega) (by omega) (by omega) (by omega) (by omega) (by omega)
  refine Inv_S2 hI (n' := n) (L' := v 212) (R' := R') a1 (by omega) e6 e212 (fun t _ => by rw [hR]) (RS_fr (fun a q1 q2 => g a (by omega)) hRS) hVR ((g 69 (by decide)).trans hB) ⟨q, k, by rw [e6, e212, hG]; exact KR_f hK (fun a q1 q2 => g a (by omega)) (g 16 (by decide)), h8⟩ (fun a k b q1 q2 q3 q4 q5 q6 q7 q8 q9 => ?_)
  have b0 := sB_00 b
  have b8 := sB_228 b
  have b3 := b.1.1
  have b4 := b.1.2.1
  clear b
  by_cases c8 : a = 208
  · subst c8
    rw [g4.2 k (by omega) (by omega), f 208 (by decide)]
  · rw [g4.1 a c8 q3 q4 q6 (by omega) (by omega)]
    by_cases c6 : a = 16
    · subst c6
      exact h3.2 k (by omega) (by omega)
    · rw [h3.1 a q1 q7 c6 (by omega) (by omega) q2]
theorem c_act (hz : Lay z) (hI : Inv v) {a b : Int} : CallOk 18 224 [.inl a, .inl b] z v := by
  obtain ⟨n, a1, a2, a3, a4⟩ := hI.sc
  obtain ⟨N, nl, l1, l2⟩ := hI.lw
  obtain ⟨q, k, k1, k2⟩ := hI.kr
  rw [shv17] at l2
  rw [a2] at k1
  unfold CallOk
  refine e_act (d := 94) hz l1 l2 hI.cn.2.1 (n := n) a1 (L := v 212) (G := v 210) (S := (v 209, v 69)) ⟨a3, rfl⟩ a4 k1 (fun hc y h1 h2 h3 => ⟨⟨_, rfl⟩, rom_rf hz, h3.1 10 (by omega) (by omega) (by decide) (by decide) (by decide) (by decide), ?_⟩) (fun hc => ⟨⟨_, rfl⟩, rom_rf hz, rfl, ?_⟩)
  · have f : ∀ a, 208 ≤ a → y a = v a := fun a ha => h3.1 a (by omega) (by omega) (by omega) (by omega) (by omega) (by omega)
    have e8 := f 208 (by decide)
    refine m_act (d := 92) hz l1 (fun a q1 q2 => f a (by omega)) (n := n) a1 (by rw [e8]; exact a2) (L := v 212) (G := v 210) (S := (v 209, v 69)) (by rw [e8]; exact hI.cn.1) (f 212 (by decide)) ⟨f 209 (by decide), (f 213 (by decide)).trans hI.bk.symm⟩ a4 (k := k) k1.2.1 (by rw [e8]; exact k2) (f 210 (by decide)) (fun _ y' g1 g2 g3 g4 => ⟨rfl, rfl, ?_, (g4.1 10 (by decide) (by decide) (by decide) (by decide) (by decide) (by decide)).trans (h3.1 10 (by omega) (by omega) (by decide) (by decide) (by decide) (by decide))⟩) (fun nc => absurd hc nc)
    have hw : b.toNat < 10 := by have := hc.1; omega
    exact Inv_AB hI a1 a2 h3 g4 h1.1 (VR_act hw a4) g1.1 (h1.2.trans g1.2.symm) h2 g2 g3
  · exact m_act (d := 92) hz l1 (fun a q1 q2 => rfl) (n := n) a1 a2 (L := v 212) (G := v 210) (S := (v 209, v 69)) hI.cn.1 rfl ⟨rfl, hI.bk.symm⟩ a4 (k := k) k1.2.1 k2 rfl (fun c => absurd c hc) (fun _ => ⟨rfl, rfl, Inv_told hI, up_off _ _ _ (by decide)⟩)
theorem c_mornings (hz : Lay z) (hI : Inv v) {a : Int} : CallOk 34 245 [.inl a] z v := by
  obtain ⟨n, a1, a2, a3, a4⟩ := hI.sc
  obtain ⟨N, nl, l1, l2⟩ := hI.lw
  obtain ⟨nd, p1, p2, p3⟩ := hI.pl
  obtain ⟨nt, t0, t1, t2⟩ := hI.tb
  obtain ⟨q, k, k1, k2⟩ := hI.kr
  rw [shv17] at l2 p3 t2
  rw [a2] at k1 p2
  unfold CallOk
  refine e_mornings (d := 92) hz l1 l2 hI.cn.2.1 (n := (n : Int)) (L := v 212) (D := v 224) (E := v 227) (G := v 210) p2 p3 t0 t2 (S := (v 209, v 69)) ⟨a3, rfl⟩ a4 k1 (fun hc y q' h1 h2 h3 => ⟨⟨_, rfl⟩, rom_rf hz, h3.1 10 (by omega) (by omega) (by decide) (by decide) (by decide) (by decide), ?_⟩) (fun hc => ⟨⟨_, rfl⟩, rom_rf hz, rfl, ?_⟩)
  · have f : ∀ a, 208 ≤ a → y a = v a := fun a ha => h3.1 a (by omega) (by omega) (by omega) (by omega) (by omega) (by omega)
    have e8 := f 208 (by decide)
    refine m_mornings (d := 90) hz l1 (fun a q1 q2 => f a (by omega)) (n := (n : Int)) (L := v 212) (D := v 224) (E := v 227) (G := v 210) (by rw [e8]; exact hI.cn.1) (f 212 (by decide)) p2 (f 224 (by decide)) (by rw [e8]; exact p1) t0 (by rw [e8]; exact t1) (f 227 (by decide)) (S := (v 209, v 69)) ⟨f 209 (by decide), (f 213 (by decide)).trans hI.bk.symm⟩ a4 (k := k) k1.2.1 (by rw [e8]; exact k2) (f 210 (by decide)) (fun _ y' g1 g2 g3 g4 => ⟨rfl, rfl, ?_, (g4.1 10 (by decide) (by decide) (by decide) (by decide) (by decide) (by decide)).trans (h3.1 10 (by omega) (by omega) (by decide) (by decide) (by decide) (by decide))⟩) (fun nc => absurd hc nc)
    exact Inv_AB hI a1 a2 h3 g4 h1.1 (VR_mkN p2 _ _ _ _ a4) g1.1 (h1.2.trans g1.2.symm) h2 g2 g3
  · exact m_mornings (d := 90) hz l1 (fun a q1 q2 => rfl) (n := (n : Int)) (L := v 212) (D := v 224) (E := v 227) (G := v 210) hI.cn.1 rfl p2 rfl p1 t0 t1 rfl (S := (v 209, v 69)) ⟨rfl, hI.bk.symm⟩ a4 (k := k) k1.2.1 k2 rfl (fun c => absurd c hc) (fun _ => ⟨rfl, rfl, Inv_told hI, up_off _ _ _ (by decide)⟩)
theorem c_undo (hz : Lay z) (hI : Inv v) : CallOk 170 178 [] z v := by
  obtain ⟨n, a1, a2, a3, a4⟩ := hI.sc
  obtain ⟨q, k, k1, k2⟩ := hI.kr
  rw [a2] at k1
  unfold CallOk
  refine e_undo (d := 98) hz (th0 := 0) a3 k1 (fun y hy => ⟨⟨_, rfl⟩, rom_rf hz, ?_, ?_⟩)
  · by_cases c : k = 0
    · rw [if_pos c] at hy; rw [hy]
    · rw [if_neg c] at hy; exact hy.2.2.2.1 10 (by omega) (by decide)
  · by_cases c : k = 0
    · rw [if_pos c] at hy
      subst hy
      refine m_undo (d := 99) hz k1.2.1 k2 (fun y' hy' => ?_)
      rw [if_pos c] at hy'
      subst hy'
      exact ⟨rfl, rfl, Inv_told hI, up_off _ _ _ (by decide)⟩
    · rw [if_neg c] at hy
      obtain ⟨h1, h2, h3, h4, h5⟩ := hy
      have f : ∀ a, 27 ≤ a → y a = v a := fun a ha => h4 a (by omega) (by omega)
      refine m_undo (d := 99) hz k1.2.1 (by rw [f 208 (by decide)]; exact k2) (fun y' hy' => ?_)
      rw [if_neg c] at hy'
      obtain ⟨g1, g2, g3, g4⟩ := hy'
      have e6 : y' 208 6 = (n : Int) := by rw [g4 6 (by decide) (by decide), f 208 (by decide)]; exact a2
      have e212 : y' 212 = v 212 := (g3 212 (by decide) (by decide)).trans (f 212 (by decide))
      have e210 : y' 210 = v 210 := (g3 210 (by decide) (by decide)).trans (f 210 (by decide))
      refine ⟨rfl, rfl, Inv_S2 hI (n' := n) (L' := v 212) (R' := fun t => v 210 (247 * (k - 1) + t)) a1 (by omega) e6 e212 (fun t ht => by rw [g1 t ht, f 210 (by decide)]) (RS_fr (fun a q1 q2 => g3 a (by omega) (by omega)) h2) h3 ?_ ⟨(q + 5) % 6, k - 1, by rw [e6, e212, e210]; exact KR_f h1 (fun a q1 q2 => g3 a (by omega) (by omega)) (g3 16 (by decide) (by decide)), g2⟩ (fun a k b q1 q2 q3 q4 q5 q6 q7 q8 q9 => ?_), (g3 10 (by decide) (by decide)).trans (h4 10 (by omega) (by decide))⟩
      · rw [g3 69 (by decide) (by decide), g3 213 (by decide) (by decide), f 69 (by decide), f 213 (by decide)]
        exact hI.bk
      · have b0 := sB_00 b
        clear b
        by_cases c8 : a = 208
        · subst c8
          rw [g4 k (by omega) (by omega), f 208 (by decide)]
        · rw [g3 a c8 q3]
          by_cases c6 : a = 16
          · subst c6
            exact h5 k (by omega) (by omega)
          · rw [h4 a q1 c6]
end SC
