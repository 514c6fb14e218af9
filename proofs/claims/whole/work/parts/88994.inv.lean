/-! ===== what holds between calls ===== -/
set_option maxHeartbeats 1000000
def shv (w : Nat) (v : xV) : xV := fun a => v (a + (w - 17))
/-- the class's whole at w is the model's u -/
def iSc (w : Nat) (u v : xV) : Prop := ∃ n : Nat, n ≤ 10 ∧ u 208 6 = (n : Int) ∧ RS (w + 1) 0 n (u 212) (u 209) v ∧ VR (u 209)
def iLw (w : Nat) (u v : xV) : Prop := ∃ N nl : Nat, lawOk u N nl ∧ lawC u (shv w v) N nl
def iPl (w : Nat) (u v : xV) : Prop := ∃ nd : Nat, u 208 32 = (nd : Int) ∧ planOk (u 224) (u 208 6) nd ∧ planC (u 224) nd (shv w v)
def iTb (w : Nat) (u v : xV) : Prop := ∃ nt : Nat, nt ≤ 16 ∧ u 208 37 = (nt : Int) ∧ tabC (u 227) nt (shv w v)
def iWd (w : Nat) (u v : xV) : Prop := v w 5 = u 208 34
def iBk (w : Nat) (u v : xV) : Prop := ∀ k, k < 600 → v (w + 52) k = u 213 k
def iRo (j m f cap : Nat) (lo hi : Int) (w : Nat) (u v : xV) : Prop := ∃ n : Nat, n ≤ cap ∧ v (w + j) 3 = (n : Int) ∧ u 208 f = (n : Int) ∧ ∀ i, i < n → v (w + j + 1) i = u m i ∧ lo ≤ u m i ∧ u m i ≤ hi
def iSm (w : Nat) (u v : xV) : Prop := ∃ n : Nat, n ≤ 8 ∧ v (w + 32) 6 = (n : Int) ∧ u 208 59 = (n : Int) ∧ v (w + 32) 7 = sumW (u 245) n
def iFi (w : Nat) (u v : xV) : Prop := (∀ k, k < 8 → v (w + 33) k = u 234 k ∧ 0 ≤ u 234 k ∧ u 234 k ≤ 99) ∧ u 234 0 = 0
def iWi (w : Nat) (u v : xV) : Prop := ∃ r : Nat → Nat, ∀ j, j < 8 → wok (r j) ∧ u 237 j = (r j : Int) - 123 ∧ ∀ k, k < 4 → v (w + 44 + j) k = (rk (r j) k : Int)
section CG
variable {w w' : Nat} {u u' v v' : xV}
theorem iSc_c (h : iSc w u v) (e6 : u' 208 6 = u 208 6) (e9 : ∀ k, k < 247 → u' 209 k = u 209 k) (e2 : ∀ k, k < 10 → u' 212 k = u 212 k) (hr : ∀ n : Int, RS (w + 1) 0 n (u 212) (u 209) v → RS (w' + 1) 0 n (u 212) (u 209) v') : iSc w' u' v' := by
  obtain ⟨n, a1, a2, a3, a4⟩ := h
  exact ⟨n, a1, e6.trans a2, RS_ext (fun i hi => (e2 i hi).symm) (fun t ht => (e9 t ht).symm) (hr _ a3), VR_ext (fun t ht => (e9 t ht).symm) a4⟩
theorem lawOk_c {N n : Nat} (h : lawOk u N n) (h0 : u' 216 0 = u 216 0) (h1 : ∀ a k, 217 ≤ a → a ≤ 220 → k < 16 → u' a k = u a k) (h2 : ∀ k, k < 400 → u' 221 k = u 221 k ∧ u' 222 k = u 222 k) : lawOk u' N n := by
  obtain ⟨a1, a2, a3, a4⟩ := h
  refine ⟨a1, a2, h0.trans a3, fun i hi => ?_⟩
  obtain ⟨f, hh, t, ty, b1, b2, b3, b4, b5, b6, b7, b8⟩ := a4 i hi
  exact ⟨f, hh, t, ty, (h1 218 i (by omega) (by omega) (by omega)).trans b1, (h1 219 i (by omega) (by omega) (by omega)).trans b2, (h1 220 i (by omega) (by omega) (by omega)).trans b3, b4, b5, b6, wfR_ext _ _ _ _ (fun i i1 i2 => ⟨(h2 i (by omega)).1.symm, (h2 i (by omega)).2.symm⟩) b7, fun q => wfR_ext _ _ _ _ (fun i i1 i2 => ⟨(h2 i (by omega)).1.symm, (h2 i (by omega)).2.symm⟩) (b8 q)⟩
theorem iLw_c (h : iLw w u v) (hw : 17 ≤ w) (hw' : 17 ≤ w') (h0 : u' 216 0 = u 216 0) (h1 : ∀ a k, 217 ≤ a → a ≤ 220 → k < 16 → u' a k = u a k) (h2 : ∀ k, k < 400 → u' 221 k = u 221 k ∧ u' 222 k = u 222 k) (c1 : ∀ k, 5 ≤ k → k ≤ 6 → v' (w' + 10) k = v (w + 10) k) (c2 : ∀ k : Nat, (k : Int) < v (w + 10) 6 → v' (w' + 11) k = v (w + 11) k) (c3 : ∀ j k, 12 ≤ j → j ≤ 15 → k < 16 → v' (w' + j) k = v (w + j) k) : iLw w' u' v' := by
  obtain ⟨N, nl, a1, b1, b2, b3, b4⟩ := h
  have e : ∀ a, 17 ≤ a → shv w v a = v (w + (a - 17)) := fun a ha => by unfold shv; rw [show a + (w - 17) = w + (a - 17) by omega]
  have e' : ∀ a, 17 ≤ a → shv w' v' a = v' (w' + (a - 17)) := fun a ha => by unfold shv; rw [show a + (w' - 17) = w' + (a - 17) by omega]
  have n16 := a1.1
  have n4 := a1.2.1
  rw [e 27 (by decide)] at b1 b2
  refine ⟨N, nl, lawOk_c a1 h0 h1 h2, ?_, ?_, fun k hk => ?_, fun i hi => ?_⟩
  · rw [e' 27 (by decide)]; exact (c1 5 (by omega) (by omega)).trans b1
  · rw [e' 27 (by decide)]; exact (c1 6 (by omega) (by omega)).trans b2
  · have q := b3 k hk
    rw [e 28 (by decide)] at q
    rw [e' 28 (by decide), (h2 k (by omega)).1, (h2 k (by omega)).2, ← q]
    refine c2 k ?_
    have : v (w + 10) 6 = (N : Int) := b2
    omega
  · obtain ⟨q1, q2, q3, q4⟩ := b4 i hi
    rw [e 29 (by decide)] at q1
    rw [e 30 (by decide)] at q2
    rw [e 31 (by decide)] at q3
    rw [e 32 (by decide)] at q4
    rw [e' 29 (by decide), e' 30 (by decide), e' 31 (by decide), e' 32 (by decide), h1 217 i (by omega) (by omega) (by omega), h1 218 i (by omega) (by omega) (by omega), h1 219 i (by omega) (by omega) (by omega), h1 220 i (by omega) (by omega) (by omega)]
    exact ⟨(c3 12 i (by omega) (by omega) (by omega)).trans q1, (c3 13 i (by omega) (by omega) (by omega)).trans q2, (c3 14 i (by omega) (by omega) (by omega)).trans q3, (c3 15 i (by omega) (by omega) (by omega)).trans q4⟩
theorem iPl_c (h : iPl w u v) (hw : 17 ≤ w) (hw' : 17 ≤ w') (e6 : u 208 6 ≤ u' 208 6) (e10 : u' 208 6 ≤ 10) (e3 : u' 208 32 = u 208 32) (e4 : ∀ k, k < 64 → u' 224 k = u 224 k) (c1 : v' (w' + 18) 6 = v (w + 18) 6) (c3 : ∀ j k, 19 ≤ j → j ≤ 24 → k < 16 → v' (w' + j) k = v (w + j) k) : iPl w' u' v' := by
  obtain ⟨nd, a1, ⟨p1, p2, p3⟩, q1, q2⟩ := h
  have e : ∀ a, 17 ≤ a → shv w v a = v (w + (a - 17)) := fun a ha => by unfold shv; rw [show a + (w - 17) = w + (a - 17) by omega]
  have e' : ∀ a, 17 ≤ a → shv w' v' a = v' (w' + (a - 17)) := fun a ha => by unfold shv; rw [show a + (w' - 17) = w' + (a - 17) by omega]
  rw [e 35 (by decide)] at q1
  refine ⟨nd, e3.trans a1, ⟨p1, e10, fun l hl => ?_⟩, ?_, fun l hl => ?_⟩
  · have p := p3 l hl
    rw [e4 (4 * l + 1) (by omega), e4 (4 * l + 2) (by omega), e4 (4 * l + 3) (by omega)]
    exact ⟨⟨p.1.1, by have := p.1.2; omega⟩, p.2⟩
  · rw [e' 35 (by decide)]; exact c1.trans q1
  · have q := q2 l hl
    rw [e 36 (by decide), e 37 (by decide), e 38 (by decide), e 39 (by decide), e 40 (by decide)] at q
    rw [e' 36 (by decide), e' 37 (by decide), e' 38 (by decide), e' 39 (by decide), e' 40 (by decide)]
    rw [e4 (4 * l) (by omega), e4 (4 * l + 1) (by omega), e4 (4 * l + 2) (by omega), e4 (4 * l + 3) (by omega)]
    exact ⟨(c3 19 l (by omega) (by omega) (by omega)).trans q.1, (c3 20 l (by omega) (by omega) (by omega)).trans q.2.1, (c3 21 l (by omega) (by omega) (by omega)).trans q.2.2.1, fun t => (c3 22 l (by omega) (by omega) (by omega)).trans (q.2.2.2.1 t), fun t => ⟨(c3 22 l (by omega) (by omega) (by omega)).trans (q.2.2.2.2 t).1, (c3 23 l (by omega) (by omega) (by omega)).trans (q.2.2.2.2 t).2⟩⟩
theorem iTb_c (h : iTb w u v) (hw : 17 ≤ w) (hw' : 17 ≤ w') (e3 : u' 208 37 = u 208 37) (e4 : ∀ k, k < 48 → u' 227 k = u 227 k) (c1 : v' (w' + 25) 6 = v (w + 25) 6) (c3 : ∀ j k, 26 ≤ j → j ≤ 31 → k < 16 → v' (w' + j) k = v (w + j) k) : iTb w' u' v' := by
  obtain ⟨nt, a0, a1, q1, q2⟩ := h
  have e : ∀ a, 17 ≤ a → shv w v a = v (w + (a - 17)) := fun a ha => by unfold shv; rw [show a + (w - 17) = w + (a - 17) by omega]
  have e' : ∀ a, 17 ≤ a → shv w' v' a = v' (w' + (a - 17)) := fun a ha => by unfold shv; rw [show a + (w' - 17) = w' + (a - 17) by omega]
  rw [e 42 (by decide)] at q1
  refine ⟨nt, a0, e3.trans a1, ?_, fun l hl => ?_⟩
  · rw [e' 42 (by decide)]; exact c1.trans q1
  · have q := q2 l hl
    rw [e 43 (by decide), e 46 (by decide), e 47 (by decide)] at q
    rw [e' 43 (by decide), e' 46 (by decide), e' 47 (by decide), e4 (3 * l) (by omega), e4 (3 * l + 1) (by omega), e4 (3 * l + 2) (by omega)]
    exact ⟨(c3 26 l (by omega) (by omega) (by omega)).trans q.1, (c3 29 l (by omega) (by omega) (by omega)).trans q.2.1, (c3 30 l (by omega) (by omega) (by omega)).trans q.2.2⟩
theorem iWd_c (h : iWd w u v) (e : u' 208 34 = u 208 34) (c : v' w' 5 = v w 5) : iWd w' u' v' := by
  unfold iWd at h ⊢
  rw [e, c, h]
theorem iBk_c (h : iBk w u v) (e : ∀ k, k < 600 → u' 213 k = u 213 k) (c : ∀ k, k < 600 → v' (w' + 52) k = v (w + 52) k) : iBk w' u' v' := fun k hk => by rw [e k hk, c k hk, h k hk]
theorem iRo_c {j m f cap : Nat} {lo hi : Int} (h : iRo j m f cap lo hi w u v) (e : u' 208 f = u 208 f) (e1 : ∀ k, k < cap → u' m k = u m k) (c : v' (w' + j) 3 = v (w + j) 3) (c1 : ∀ k, k < cap → v' (w' + j + 1) k = v (w + j + 1) k) : iRo j m f cap lo hi w' u' v' := by
  obtain ⟨n, a1, a2, a3, a4⟩ := h
  refine ⟨n, a1, c.trans a2, e.trans a3, fun i hi => ?_⟩
  rw [e1 i (by omega), c1 i (by omega)]
  exact a4 i hi
theorem sumW_c {f g : Nat → Int} : ∀ n, (∀ k, k < n → g k = f k) → sumW g n = sumW f n
  | 0, _ => rfl
  | n + 1, h => by
    show wr (sumW g n + g n) = wr (sumW f n + f n)
    rw [sumW_c n (fun k hk => h k (by omega)), h n (by omega)]
theorem iSm_c (h : iSm w u v) (e : u' 208 59 = u 208 59) (e1 : ∀ k, k < 8 → u' 245 k = u 245 k) (c : ∀ k, 6 ≤ k → k ≤ 7 → v' (w' + 32) k = v (w + 32) k) : iSm w' u' v' := by
  obtain ⟨n, a1, a2, a3, a4⟩ := h
  exact ⟨n, a1, (c 6 (by omega) (by omega)).trans a2, e.trans a3, ((c 7 (by omega) (by omega)).trans a4).trans (sumW_c n (fun k hk => e1 k (by omega))).symm⟩
theorem iFi_c (h : iFi w u v) (e1 : ∀ k, k < 8 → u' 234 k = u 234 k) (c : ∀ k, k < 8 → v' (w' + 33) k = v (w + 33) k) : iFi w' u' v' := by
  refine ⟨fun k hk => ?_, (e1 0 (by omega)).trans h.2⟩
  rw [e1 k hk, c k hk]
  exact h.1 k hk
theorem iWi_c (h : iWi w u v) (e1 : ∀ k, k < 8 → u' 237 k = u 237 k) (c : ∀ j k, 44 ≤ j → j ≤ 51 → k < 4 → v' (w' + j) k = v (w + j) k) : iWi w' u' v' := by
  obtain ⟨r, hr⟩ := h
  refine ⟨r, fun j hj => ⟨(hr j hj).1, (e1 j hj).trans (hr j hj).2.1, fun k hk => ?_⟩⟩
  have q := c (44 + j) k (by omega) (by omega) hk
  rw [show w' + (44 + j) = w' + 44 + j by omega, show w + (44 + j) = w + 44 + j by omega] at q
  exact q.trans ((hr j hj).2.2 k hk)
end CG
/-- all of a whole -/
def All (w : Nat) (u v : xV) : Prop := iSc w u v ∧ iLw w u v ∧ iPl w u v ∧ iTb w u v ∧ iWd w u v ∧ iBk w u v ∧ iRo 34 235 46 12 1 99 w u v ∧ iRo 36 242 54 12 0 99 w u v ∧ iRo 38 243 56 9 1 60 w u v ∧ iRo 40 246 61 10 0 1023 w u v ∧ iSm w u v ∧ iFi w u v ∧ iWi w u v
def pIn (a k : Nat) : Prop := (a = 209 ∧ k < 247) ∨ (a = 208 ∧ (k = 6 ∨ k = 32 ∨ k = 34 ∨ k = 37 ∨ k = 46 ∨ k = 54 ∨ k = 56 ∨ k = 59 ∨ k = 61)) ∨ ((a = 212 ∨ a = 246) ∧ k < 10) ∨ (a = 224 ∧ k < 64) ∨ (a = 227 ∧ k < 48) ∨ ((a = 234 ∨ a = 237 ∨ a = 245) ∧ k < 8) ∨ ((a = 235 ∨ a = 242) ∧ k < 12) ∨ (a = 243 ∧ k < 9) ∨ (a = 213 ∧ k < 600) ∨ (a = 216 ∧ k = 0) ∨ ((a = 217 ∨ a = 218 ∨ a = 219 ∨ a = 220) ∧ k < 16) ∨ ((a = 221 ∨ a = 222) ∧ k < 400)
theorem All_c {w w' N : Nat} {u u' v v' : xV} (h : All w u v) (hw : 17 ≤ w) (hw' : 17 ≤ w') (hu : ∀ a k, pIn a k → u' a k = u a k) (hN : v (w + 10) 6 = (N : Int)) (hc : CpW w' w N v v') (hr : ∀ n : Int, RS (w + 1) 0 n (u 212) (u 209) v → RS (w' + 1) 0 n (u 212) (u 209) v') : All w' u' v' := by
  obtain ⟨a1, a2, a3, a4, a5, a6, a7, a8, a9, a10, a11, a12, a13⟩ := h
  obtain ⟨h1, h2, h3, h4, h5, h6, h7, h8, h9, h10, h11, h12, h13, -⟩ := hc
  have e6 : u' 208 6 = u 208 6 := hu 208 6 (by unfold pIn; omega)
  have n10 : u 208 6 ≤ 10 := by obtain ⟨n, b1, b2, -⟩ := a1; omega
  refine ⟨iSc_c a1 e6 (fun k hk => hu _ _ (by unfold pIn; omega)) (fun k hk => hu _ _ (by unfold pIn; omega)) hr, iLw_c a2 hw hw' (hu _ _ (by unfold pIn; omega)) (fun a k q1 q2 hk => hu _ _ (by unfold pIn; omega)) (fun k hk => ⟨hu _ _ (by unfold pIn; omega), hu _ _ (by unfold pIn; omega)⟩) h2 (fun k hk => h3 k (by omega)) h4, iPl_c a3 hw hw' (by omega) (by omega) (hu _ _ (by unfold pIn; omega)) (fun k hk => hu _ _ (by unfold pIn; omega)) h5 h6, iTb_c a4 hw hw' (hu _ _ (by unfold pIn; omega)) (fun k hk => hu _ _ (by unfold pIn; omega)) h7 h8, iWd_c a5 (hu _ _ (by unfold pIn; omega)) h1, iBk_c a6 (fun k hk => hu _ _ (by unfold pIn; omega)) h13, ?_, ?_, ?_, ?_, iSm_c a11 (hu _ _ (by unfold pIn; omega)) (fun k hk => hu _ _ (by unfold pIn; omega)) h9, iFi_c a12 (fun k hk => hu _ _ (by unfold pIn; omega)) h10, iWi_c a13 (fun k hk => hu _ _ (by unfold pIn; omega)) h12⟩
  · exact iRo_c a7 (hu _ _ (by unfold pIn; omega)) (fun k hk => hu _ _ (by unfold pIn; omega)) (h11 34 12 (by omega)).1 (h11 34 12 (by omega)).2.1
  · exact iRo_c a8 (hu _ _ (by unfold pIn; omega)) (fun k hk => hu _ _ (by unfold pIn; omega)) (h11 36 12 (by omega)).1 (h11 36 12 (by omega)).2.1
  · exact iRo_c a9 (hu _ _ (by unfold pIn; omega)) (fun k hk => hu _ _ (by unfold pIn; omega)) (h11 38 9 (by omega)).1 (h11 38 9 (by omega)).2.1
  · exact iRo_c a10 (hu _ _ (by unfold pIn; omega)) (fun k hk => hu _ _ (by unfold pIn; omega)) (h11 40 10 (by omega)).1 (h11 40 10 (by omega)).2.1
theorem CpW_id {w N : Nat} {v v' : xV} (e : ∀ a, w ≤ a → a ≤ w + 52 → a ≠ w + 16 → a ≠ w + 17 → v' a = v a) : CpW w w N v v' := by
  have f : ∀ a k, w ≤ a → a ≤ w + 52 → a ≠ w + 16 → a ≠ w + 17 → v' a k = v a k := fun a k q1 q2 q3 q4 => congrFun (e a q1 q2 q3 q4) k
  exact ⟨f _ _ (by omega) (by omega) (by omega) (by omega), fun k _ _ => f _ _ (by omega) (by omega) (by omega) (by omega), fun k _ => f _ _ (by omega) (by omega) (by omega) (by omega), fun j k _ _ _ => f _ _ (by omega) (by omega) (by omega) (by omega), f _ _ (by omega) (by omega) (by omega) (by omega), fun j k _ _ _ => f _ _ (by omega) (by omega) (by omega) (by omega), f _ _ (by omega) (by omega) (by omega) (by omega), fun j k _ _ _ => f _ _ (by omega) (by omega) (by omega) (by omega), fun k _ _ => f _ _ (by omega) (by omega) (by omega) (by omega), fun k _ => f _ _ (by omega) (by omega) (by omega) (by omega), fun j n hj => ⟨f _ _ (by omega) (by omega) (by omega) (by omega), fun k _ => f _ _ (by omega) (by omega) (by omega) (by omega), fun k _ => f _ _ (by omega) (by omega) (by omega) (by omega)⟩, fun j k _ _ _ => f _ _ (by omega) (by omega) (by omega) (by omega), fun k _ => f _ _ (by omega) (by omega) (by omega) (by omega), fun k _ => f _ _ (by omega) (by omega) (by omega) (by omega)⟩
