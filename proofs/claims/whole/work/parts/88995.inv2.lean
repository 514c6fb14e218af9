/-! ===== what holds between calls, all of it, and what it reads ===== -/
set_option maxHeartbeats 1000000
def uI (v : xV) : xV := fun a k => v 249 (pidx a k)
def iKR (v : xV) : Prop := ∃ q k : Nat, KR q k (v 208 6) (v 212) (v 210) v ∧ v 208 3 = (k : Int)
def iTp (v : xV) : Prop := ∃ len : Nat, len ≤ 400 ∧ v 16 8 = (len : Int) ∧ v 208 10 = (len : Int) ∧ agT (v 133) (v 214) len
def iFt (v : xV) : Prop := v 16 11 = v 208 30 ∧ v 16 12 = v 208 31
def iCn (v : xV) : Prop := v 208 5 = 0 ∧ dirV v ∧ (v 3 1 = 0 ∧ v 4 1 = 0 ∧ v 5 1 = 0) ∧ v 6 = strA ∧ v 7 = strB ∧ v 8 = strS ∧ v 215 = strM ∧ v 123 0 = 1 ∧ (v 51 1 = 1 ∧ v 51 2 = 99 ∧ v 53 1 = 0 ∧ v 53 2 = 99 ∧ v 55 1 = 1 ∧ v 55 2 = 60 ∧ v 57 1 = 0 ∧ v 57 2 = 1023) ∧ ∀ k, rg (v 10 k)
def iIm (v : xV) : Prop := v 16 2 = v 208 66 ∧ v 71 0 = 0 ∧ (v 16 2 = 0 ∨ (v 16 2 = 1 ∧ All 70 (uI v) v))
def Inv (v : xV) : Prop := iSc 17 v v ∧ iLw 17 v v ∧ iPl 17 v v ∧ iTb 17 v v ∧ iWd 17 v v ∧ v 69 = v 213 ∧ iRo 34 235 46 12 1 99 17 v v ∧ iRo 36 242 54 12 0 99 17 v v ∧ iRo 38 243 56 9 1 60 17 v v ∧ iRo 40 246 61 10 0 1023 17 v v ∧ iSm 17 v v ∧ iFi 17 v v ∧ iWi 17 v v ∧ iKR v ∧ iTp v ∧ iFt v ∧ iCn v ∧ iIm v
theorem Inv.sc {v : xV} (h : Inv v) : iSc 17 v v := h.1
theorem Inv.lw {v : xV} (h : Inv v) : iLw 17 v v := h.2.1
theorem Inv.pl {v : xV} (h : Inv v) : iPl 17 v v := h.2.2.1
theorem Inv.tb {v : xV} (h : Inv v) : iTb 17 v v := h.2.2.2.1
theorem Inv.wd {v : xV} (h : Inv v) : iWd 17 v v := h.2.2.2.2.1
theorem Inv.bk {v : xV} (h : Inv v) : v 69 = v 213 := h.2.2.2.2.2.1
theorem Inv.pt {v : xV} (h : Inv v) : iRo 34 235 46 12 1 99 17 v v := h.2.2.2.2.2.2.1
theorem Inv.ht {v : xV} (h : Inv v) : iRo 36 242 54 12 0 99 17 v v := h.2.2.2.2.2.2.2.1
theorem Inv.th {v : xV} (h : Inv v) : iRo 38 243 56 9 1 60 17 v v := h.2.2.2.2.2.2.2.2.1
theorem Inv.sp {v : xV} (h : Inv v) : iRo 40 246 61 10 0 1023 17 v v := h.2.2.2.2.2.2.2.2.2.1
theorem Inv.sm {v : xV} (h : Inv v) : iSm 17 v v := h.2.2.2.2.2.2.2.2.2.2.1
theorem Inv.fi {v : xV} (h : Inv v) : iFi 17 v v := h.2.2.2.2.2.2.2.2.2.2.2.1
theorem Inv.wi {v : xV} (h : Inv v) : iWi 17 v v := h.2.2.2.2.2.2.2.2.2.2.2.2.1
theorem Inv.kr {v : xV} (h : Inv v) : iKR v := h.2.2.2.2.2.2.2.2.2.2.2.2.2.1
theorem Inv.tp {v : xV} (h : Inv v) : iTp v := h.2.2.2.2.2.2.2.2.2.2.2.2.2.2.1
theorem Inv.ft {v : xV} (h : Inv v) : iFt v := h.2.2.2.2.2.2.2.2.2.2.2.2.2.2.2.1
theorem Inv.cn {v : xV} (h : Inv v) : iCn v := h.2.2.2.2.2.2.2.2.2.2.2.2.2.2.2.2.1
theorem Inv.im {v : xV} (h : Inv v) : iIm v := h.2.2.2.2.2.2.2.2.2.2.2.2.2.2.2.2.2
def sSc (a k : Nat) : Prop := (18 ≤ a ∧ a ≤ 26) ∨ (a = 208 ∧ k = 6) ∨ (a = 209 ∧ k < 247) ∨ (a = 212 ∧ k < 10)
def sLw (a k : Nat) : Prop := (27 ≤ a ∧ a ≤ 32) ∨ (a = 216 ∧ k = 0) ∨ ((217 ≤ a ∧ a ≤ 220) ∧ k < 16) ∨ ((a = 221 ∨ a = 222) ∧ k < 400)
def sPl (a k : Nat) : Prop := (35 ≤ a ∧ a ≤ 41) ∨ (a = 208 ∧ (k = 6 ∨ k = 32)) ∨ (a = 224 ∧ k < 64)
def sTb (a k : Nat) : Prop := (42 ≤ a ∧ a ≤ 48) ∨ (a = 208 ∧ k = 37) ∨ (a = 227 ∧ k < 48)
def sWd (a k : Nat) : Prop := (a = 17 ∧ k = 5) ∨ (a = 208 ∧ k = 34)
def sBk (a k : Nat) : Prop := a = 69 ∨ a = 213
def sPt (a k : Nat) : Prop := (a = 51 ∧ k = 3) ∨ a = 52 ∨ (a = 208 ∧ k = 46) ∨ (a = 235 ∧ k < 12)
def sHt (a k : Nat) : Prop := (a = 53 ∧ k = 3) ∨ a = 54 ∨ (a = 208 ∧ k = 54) ∨ (a = 242 ∧ k < 12)
def sTh (a k : Nat) : Prop := (a = 55 ∧ k = 3) ∨ a = 56 ∨ (a = 208 ∧ k = 56) ∨ (a = 243 ∧ k < 9)
def sSp (a k : Nat) : Prop := (a = 57 ∧ k = 3) ∨ a = 58 ∨ (a = 208 ∧ k = 61) ∨ (a = 246 ∧ k < 10)
def sSm (a k : Nat) : Prop := (a = 49 ∧ (k = 6 ∨ k = 7)) ∨ (a = 208 ∧ k = 59) ∨ (a = 245 ∧ k < 8)
def sFi (a k : Nat) : Prop := a = 50 ∨ (a = 234 ∧ k < 8)
def sWi (a k : Nat) : Prop := (61 ≤ a ∧ a ≤ 68) ∨ (a = 237 ∧ k < 8)
def sKR (a k : Nat) : Prop := (a = 16 ∧ (k = 5 ∨ k = 6)) ∨ (154 ≤ a ∧ a ≤ 207) ∨ (a = 208 ∧ (k = 3 ∨ k = 6)) ∨ (a = 212 ∧ k < 10) ∨ a = 210
def sTp (a k : Nat) : Prop := (a = 16 ∧ k = 8) ∨ (a = 208 ∧ k = 10) ∨ a = 133 ∨ a = 214
def sFt (a k : Nat) : Prop := (a = 16 ∧ (k = 11 ∨ k = 12)) ∨ (a = 208 ∧ (k = 30 ∨ k = 31))
def sCn (a k : Nat) : Prop := (a = 208 ∧ k = 5) ∨ (1 ≤ a ∧ a ≤ 8) ∨ a = 215 ∨ (a = 123 ∧ k = 0) ∨ ((a = 51 ∨ a = 53 ∨ a = 55 ∨ a = 57) ∧ (k = 1 ∨ k = 2)) ∨ a = 10
def sIm (a k : Nat) : Prop := (a = 16 ∧ k = 2) ∨ (a = 208 ∧ k = 66) ∨ (70 ≤ a ∧ a ≤ 122 ∧ a ≠ 86 ∧ a ≠ 87) ∨ a = 249
def sIn (a k : Nat) : Prop := sSc a k ∨ sLw a k ∨ sPl a k ∨ sTb a k ∨ sWd a k ∨ sBk a k ∨ sPt a k ∨ sHt a k ∨ sTh a k ∨ sSp a k ∨ sSm a k ∨ sFi a k ∨ sWi a k ∨ sKR a k ∨ sTp a k ∨ sFt a k ∨ sCn a k ∨ sIm a k
section AG
variable {v v' : xV}
theorem aSc (h : iSc 17 v v) (e : ∀ a k, sSc a k → v' a k = v a k) : iSc 17 v' v' := iSc_c h (e _ _ (by unfold sSc; omega)) (fun k hk => e _ _ (by unfold sSc; omega)) (fun k hk => e _ _ (by unfold sSc; omega)) (fun n q => RS_fr (fun a a1 a2 => funext fun k => e _ _ (by unfold sSc; omega)) q)
theorem aLw (h : iLw 17 v v) (e : ∀ a k, sLw a k → v' a k = v a k) : iLw 17 v' v' := iLw_c h (by decide) (by decide) (e _ _ (by unfold sLw; omega)) (fun a k a1 a2 hk => e _ _ (by unfold sLw; omega)) (fun k hk => ⟨e _ _ (by unfold sLw; omega), e _ _ (by unfold sLw; omega)⟩) (fun k _ _ => e _ _ (by unfold sLw; omega)) (fun k _ => e _ _ (by unfold sLw; omega)) (fun j k _ _ _ => e _ _ (by unfold sLw; omega))
theorem aPl (h : iPl 17 v v) (e : ∀ a k, sPl a k → v' a k = v a k) : iPl 17 v' v' := by
  have n10 : v 208 6 ≤ 10 := by obtain ⟨nd, -, q, -⟩ := h; exact q.2.1
  have e6 : v' 208 6 = v 208 6 := e _ _ (by unfold sPl; omega)
  exact iPl_c h (by decide) (by decide) (by omega) (by omega) (e _ _ (by unfold sPl; omega)) (fun k hk => e _ _ (by unfold sPl; omega)) (e _ _ (by unfold sPl; omega)) (fun j k _ _ _ => e _ _ (by unfold sPl; omega))
theorem aTb (h : iTb 17 v v) (e : ∀ a k, sTb a k → v' a k = v a k) : iTb 17 v' v' := iTb_c h (by decide) (by decide) (e _ _ (by unfold sTb; omega)) (fun k hk => e _ _ (by unfold sTb; omega)) (e _ _ (by unfold sTb; omega)) (fun j k _ _ _ => e _ _ (by unfold sTb; omega))
theorem aWd (h : iWd 17 v v) (e : ∀ a k, sWd a k → v' a k = v a k) : iWd 17 v' v' := iWd_c h (e _ _ (by unfold sWd; omega)) (e _ _ (by unfold sWd; omega))
theorem aBk (h : v 69 = v 213) (e : ∀ a k, sBk a k → v' a k = v a k) : v' 69 = v' 213 := funext fun k => by rw [e 69 k (by unfold sBk; omega), e 213 k (by unfold sBk; omega), h]
theorem aPt (h : iRo 34 235 46 12 1 99 17 v v) (e : ∀ a k, sPt a k → v' a k = v a k) : iRo 34 235 46 12 1 99 17 v' v' := iRo_c h (e _ _ (by unfold sPt; omega)) (fun k hk => e _ _ (by unfold sPt; omega)) (e _ _ (by unfold sPt; omega)) (fun k hk => e _ _ (by unfold sPt; omega))
theorem aHt (h : iRo 36 242 54 12 0 99 17 v v) (e : ∀ a k, sHt a k → v' a k = v a k) : iRo 36 242 54 12 0 99 17 v' v' := iRo_c h (e _ _ (by unfold sHt; omega)) (fun k hk => e _ _ (by unfold sHt; omega)) (e _ _ (by unfold sHt; omega)) (fun k hk => e _ _ (by unfold sHt; omega))
theorem aTh (h : iRo 38 243 56 9 1 60 17 v v) (e : ∀ a k, sTh a k → v' a k = v a k) : iRo 38 243 56 9 1 60 17 v' v' := iRo_c h (e _ _ (by unfold sTh; omega)) (fun k hk => e _ _ (by unfold sTh; omega)) (e _ _ (by unfold sTh; omega)) (fun k hk => e _ _ (by unfold sTh; omega))
theorem aSp (h : iRo 40 246 61 10 0 1023 17 v v) (e : ∀ a k, sSp a k → v' a k = v a k) : iRo 40 246 61 10 0 1023 17 v' v' := iRo_c h (e _ _ (by unfold sSp; omega)) (fun k hk => e _ _ (by unfold sSp; omega)) (e _ _ (by unfold sSp; omega)) (fun k hk => e _ _ (by unfold sSp; omega))
theorem aSm (h : iSm 17 v v) (e : ∀ a k, sSm a k → v' a k = v a k) : iSm 17 v' v' := iSm_c h (e _ _ (by unfold sSm; omega)) (fun k hk => e _ _ (by unfold sSm; omega)) (fun k _ _ => e _ _ (by unfold sSm; omega))
theorem aFi (h : iFi 17 v v) (e : ∀ a k, sFi a k → v' a k = v a k) : iFi 17 v' v' := iFi_c h (fun k hk => e _ _ (by unfold sFi; omega)) (fun k _ => e _ _ (by unfold sFi; omega))
theorem aWi (h : iWi 17 v v) (e : ∀ a k, sWi a k → v' a k = v a k) : iWi 17 v' v' := iWi_c h (fun k hk => e _ _ (by unfold sWi; omega)) (fun j k _ _ _ => e _ _ (by unfold sWi; omega))
theorem aKR (h : iKR v) (e : ∀ a k, sKR a k → v' a k = v a k) : iKR v' := by
  obtain ⟨q, k, ⟨h1, h2, h3, h4, h5, h6⟩, h7⟩ := h
  have e6 : v' 208 6 = v 208 6 := e _ _ (by unfold sKR; omega)
  have eG : v' 210 = v 210 := funext fun k => e _ _ (by unfold sKR; omega)
  refine ⟨q, k, ⟨h1, h2, (e _ _ (by unfold sKR; omega)).trans h3, (e _ _ (by unfold sKR; omega)).trans h4, fun i hi => (e _ _ (by unfold sKR; omega)).trans (h5 i hi), fun j hj => ?_⟩, (e _ _ (by unfold sKR; omega)).trans h7⟩
  rw [e6, eG]
  refine ⟨RS_ext (fun i hi => (e 212 i (by unfold sKR; omega)).symm) (fun _ _ => rfl) (RS_fr (fun a a1 a2 => funext fun t => e _ _ ?_) (h6 j hj).1), (h6 j hj).2⟩
  have m : (q + 6 - k + j) % 6 < 6 := Nat.mod_lt _ (by decide)
  unfold kix at a1 a2
  unfold sKR
  omega
theorem aTp (h : iTp v) (e : ∀ a k, sTp a k → v' a k = v a k) : iTp v' := by
  obtain ⟨len, h1, h2, h3, h4⟩ := h
  have e1 : v' 133 = v 133 := funext fun k => e _ _ (by unfold sTp; omega)
  have e2 : v' 214 = v 214 := funext fun k => e _ _ (by unfold sTp; omega)
  exact ⟨len, h1, (e _ _ (by unfold sTp; omega)).trans h2, (e _ _ (by unfold sTp; omega)).trans h3, by rw [e1, e2]; exact h4⟩
theorem aFt (h : iFt v) (e : ∀ a k, sFt a k → v' a k = v a k) : iFt v' := by
  unfold iFt at h ⊢
  rw [e 16 11 (by unfold sFt; omega), e 16 12 (by unfold sFt; omega), e 208 30 (by unfold sFt; omega), e 208 31 (by unfold sFt; omega)]
  exact h
theorem aCn (h : iCn v) (e : ∀ a k, sCn a k → v' a k = v a k) : iCn v' := by
  have f : ∀ a, ((1 ≤ a ∧ a ≤ 8) ∨ a = 215 ∨ a = 10) → v' a = v a := fun a ha => funext fun k => e _ _ (by unfold sCn; omega)
  unfold iCn dirV at h ⊢
  rw [f 1 (by omega), f 2 (by omega), f 3 (by omega), f 4 (by omega), f 5 (by omega), f 6 (by omega), f 7 (by omega), f 8 (by omega), f 215 (by omega), f 10 (by omega), e 208 5 (by unfold sCn; omega), e 123 0 (by unfold sCn; omega), e 51 1 (by unfold sCn; omega), e 51 2 (by unfold sCn; omega), e 53 1 (by unfold sCn; omega), e 53 2 (by unfold sCn; omega), e 55 1 (by unfold sCn; omega), e 55 2 (by unfold sCn; omega), e 57 1 (by unfold sCn; omega), e 57 2 (by unfold sCn; omega)]
  exact h
theorem aIm (h : iIm v) (e : ∀ a k, sIm a k → v' a k = v a k) : iIm v' := by
  obtain ⟨h1, h2, h3⟩ := h
  have e2 : v' 16 2 = v 16 2 := e _ _ (by unfold sIm; omega)
  have f : ∀ a, 70 ≤ a → a ≤ 122 → a ≠ 86 → a ≠ 87 → v' a = v a := fun a q1 q2 q3 q4 => funext fun k => e _ _ (by unfold sIm; omega)
  refine ⟨e2.trans (h1.trans (e _ _ (by unfold sIm; omega)).symm), (e _ _ (by unfold sIm; omega)).trans h2, ?_⟩
  rcases h3 with h3 | ⟨h3, h4⟩
  · exact .inl (e2.trans h3)
  · refine .inr ⟨e2.trans h3, ?_⟩
    obtain ⟨N, nl, -, -, b2, -⟩ := h4.2.1
    exact All_c (w := 70) (w' := 70) (N := N) h4 (by decide) (by decide) (fun a k _ => e 249 _ (by unfold sIm; omega)) b2 (CpW_id (fun a q1 q2 q3 q4 => f a q1 q2 q3 q4)) (fun n q => RS_fr (fun a q1 q2 => f a (by omega) (by omega) (by omega) (by omega)) q)
theorem Inv_mk (hI : Inv v) {E : Nat → Nat → Prop} (h : ∀ a k, sIn a k → ¬ E a k → v' a k = v a k) (pSc : (∀ a k, sSc a k → ¬ E a k) ∨ iSc 17 v' v') (pLw : (∀ a k, sLw a k → ¬ E a k) ∨ iLw 17 v' v') (pPl : (∀ a k, sPl a k → ¬ E a k) ∨ iPl 17 v' v') (pTb : (∀ a k, sTb a k → ¬ E a k) ∨ iTb 17 v' v') (pWd : (∀ a k, sWd a k → ¬ E a k) ∨ iWd 17 v' v') (pBk : (∀ a k, sBk a k → ¬ E a k) ∨ v' 69 = v' 213) (pPt : (∀ a k, sPt a k → ¬ E a k) ∨ iRo 34 235 46 12 1 99 17 v' v') (pHt : (∀ a k, sHt a k → ¬ E a k) ∨ iRo 36 242 54 12 0 99 17 v' v') (pTh : (∀ a k, sTh a k → ¬ E a k) ∨ iRo 38 243 56 9 1 60 17 v' v') (pSp : (∀ a k, sSp a k → ¬ E a k) ∨ iRo 40 246 61 10 0 1023 17 v' v') (pSm : (∀ a k, sSm a k → ¬ E a k) ∨ iSm 17 v' v') (pFi : (∀ a k, sFi a k → ¬ E a k) ∨ iFi 17 v' v') (pWi : (∀ a k, sWi a k → ¬ E a k) ∨ iWi 17 v' v') (pKR : (∀ a k, sKR a k → ¬ E a k) ∨ iKR v') (pTp : (∀ a k, sTp a k → ¬ E a k) ∨ iTp v') (pFt : (∀ a k, sFt a k → ¬ E a k) ∨ iFt v') (pCn : (∀ a k, sCn a k → ¬ E a k) ∨ iCn v') (pIm : (∀ a k, sIm a k → ¬ E a k) ∨ iIm v') : Inv v' := by
  have qSc : iSc 17 v' v' := pSc.elim (fun q => aSc hI.sc (fun a k s => h a k (.inl s) (q a k s))) id
  have qLw : iLw 17 v' v' := pLw.elim (fun q => aLw hI.lw (fun a k s => h a k (.inr (.inl s)) (q a k s))) id
  have qPl : iPl 17 v' v' := pPl.elim (fun q => aPl hI.pl (fun a k s => h a k (.inr (.inr (.inl s))) (q a k s))) id
  have qTb : iTb 17 v' v' := pTb.elim (fun q => aTb hI.tb (fun a k s => h a k (.inr (.inr (.inr (.inl s)))) (q a k s))) id
  have qWd : iWd 17 v' v' := pWd.elim (fun q => aWd hI.wd (fun a k s => h a k (.inr (.inr (.inr (.inr (.inl s))))) (q a k s))) id
  have qBk : v' 69 = v' 213 := pBk.elim (fun q => aBk hI.bk (fun a k s => h a k (.inr (.inr (.inr (.inr (.inr (.inl s)))))) (q a k s))) id
  have qPt : iRo 34 235 46 12 1 99 17 v' v' := pPt.elim (fun q => aPt hI.pt (fun a k s => h a k (.inr (.inr (.inr (.inr (.inr (.inr (.inl s))))))) (q a k s))) id
  have qHt : iRo 36 242 54 12 0 99 17 v' v' := pHt.elim (fun q => aHt hI.ht (fun a k s => h a k (.inr (.inr (.inr (.inr (.inr (.inr (.inr (.inl s)))))))) (q a k s))) id
  have qTh : iRo 38 243 56 9 1 60 17 v' v' := pTh.elim (fun q => aTh hI.th (fun a k s => h a k (.inr (.inr (.inr (.inr (.inr (.inr (.inr (.inr (.inl s))))))))) (q a k s))) id
  have qSp : iRo 40 246 61 10 0 1023 17 v' v' := pSp.elim (fun q => aSp hI.sp (fun a k s => h a k (.inr (.inr (.inr (.inr (.inr (.inr (.inr (.inr (.inr (.inl s)))))))))) (q a k s))) id
  have qSm : iSm 17 v' v' := pSm.elim (fun q => aSm hI.sm (fun a k s => h a k (.inr (.inr (.inr (.inr (.inr (.inr (.inr (.inr (.inr (.inr (.inl s))))))))))) (q a k s))) id
  have qFi : iFi 17 v' v' := pFi.elim (fun q => aFi hI.fi (fun a k s => h a k (.inr (.inr (.inr (.inr (.inr (.inr (.inr (.inr (.inr (.inr (.inr (.inl s)))))))))))) (q a k s))) id
  have qWi : iWi 17 v' v' := pWi.elim (fun q => aWi hI.wi (fun a k s => h a k (.inr (.inr (.inr (.inr (.inr (.inr (.inr (.inr (.inr (.inr (.inr (.inr (.inl s))))))))))))) (q a k s))) id
  have qKR : iKR v' := pKR.elim (fun q => aKR hI.kr (fun a k s => h a k (.inr (.inr (.inr (.inr (.inr (.inr (.inr (.inr (.inr (.inr (.inr (.inr (.inr (.inl s)))))))))))))) (q a k s))) id
  have qTp : iTp v' := pTp.elim (fun q => aTp hI.tp (fun a k s => h a k (.inr (.inr (.inr (.inr (.inr (.inr (.inr (.inr (.inr (.inr (.inr (.inr (.inr (.inr (.inl s))))))))))))))) (q a k s))) id
  have qFt : iFt v' := pFt.elim (fun q => aFt hI.ft (fun a k s => h a k (.inr (.inr (.inr (.inr (.inr (.inr (.inr (.inr (.inr (.inr (.inr (.inr (.inr (.inr (.inr (.inl s)))))))))))))))) (q a k s))) id
  have qCn : iCn v' := pCn.elim (fun q => aCn hI.cn (fun a k s => h a k (.inr (.inr (.inr (.inr (.inr (.inr (.inr (.inr (.inr (.inr (.inr (.inr (.inr (.inr (.inr (.inr (.inl s))))))))))))))))) (q a k s))) id
  have qIm : iIm v' := pIm.elim (fun q => aIm hI.im (fun a k s => h a k (.inr (.inr (.inr (.inr (.inr (.inr (.inr (.inr (.inr (.inr (.inr (.inr (.inr (.inr (.inr (.inr (.inr s))))))))))))))))) (q a k s))) id
  exact ⟨qSc, qLw, qPl, qTb, qWd, qBk, qPt, qHt, qTh, qSp, qSm, qFi, qWi, qKR, qTp, qFt, qCn, qIm⟩
theorem Inv_all (hI : Inv v) (h : ∀ a k, sIn a k → v' a k = v a k) : Inv v' := Inv_mk hI (E := fun _ _ => False) (fun a k s _ => h a k s) (.inl fun _ _ _ q => q) (.inl fun _ _ _ q => q) (.inl fun _ _ _ q => q) (.inl fun _ _ _ q => q) (.inl fun _ _ _ q => q) (.inl fun _ _ _ q => q) (.inl fun _ _ _ q => q) (.inl fun _ _ _ q => q) (.inl fun _ _ _ q => q) (.inl fun _ _ _ q => q) (.inl fun _ _ _ q => q) (.inl fun _ _ _ q => q) (.inl fun _ _ _ q => q) (.inl fun _ _ _ q => q) (.inl fun _ _ _ q => q) (.inl fun _ _ _ q => q) (.inl fun _ _ _ q => q) (.inl fun _ _ _ q => q)
theorem cK {a k : Nat} (h8 : a ≠ 208) (h : core a 0 = true) : core a k = true := by
  have e : (a != 208) = true := by simp [h8]
  unfold core at h ⊢
  rw [e] at h ⊢
  rw [Bool.true_or] at h ⊢
  exact h
theorem cR {a k : Nat} (lo n : Nat) (t : (allB n fun i => core (lo + i) 0) = true) (h : lo ≤ a ∧ a < lo + n) (h8 : a ≠ 208) : core a k = true := cK h8 (by
  have q := allB_spec t (a - lo) (by omega)
  rw [show lo + (a - lo) = a by omega] at q
  exact q)
theorem kSc {a k : Nat} (s : sSc a k) : core a k = true := by
  unfold sSc at s
  rcases s with h | ⟨rfl, rfl⟩ | ⟨rfl, _⟩ | ⟨rfl, _⟩
  · exact cR 18 9 (by decide +kernel) (by omega) (by omega)
  · rfl
  · exact cK (by decide) rfl
  · exact cK (by decide) rfl
theorem kLw {a k : Nat} (s : sLw a k) : core a k = true := by
  unfold sLw at s
  rcases s with h | ⟨rfl, _⟩ | ⟨h, _⟩ | ⟨rfl | rfl, _⟩
  · exact cR 27 6 (by decide +kernel) (by omega) (by omega)
  · exact cK (by decide) rfl
  · exact cR 217 4 (by decide +kernel) (by omega) (by omega)
  · exact cK (by decide) rfl
  · exact cK (by decide) rfl
theorem kPl {a k : Nat} (s : sPl a k) : core a k = true := by
  unfold sPl at s
  rcases s with h | ⟨rfl, rfl | rfl⟩ | ⟨rfl, _⟩
  · exact cR 35 7 (by decide +kernel) (by omega) (by omega)
  · rfl
  · rfl
  · exact cK (by decide) rfl
theorem kTb {a k : Nat} (s : sTb a k) : core a k = true := by
  unfold sTb at s
  rcases s with h | ⟨rfl, rfl⟩ | ⟨rfl, _⟩
  · exact cR 42 7 (by decide +kernel) (by omega) (by omega)
  · rfl
  · exact cK (by decide) rfl
theorem kWd {a k : Nat} (s : sWd a k) : core a k = true := by
  unfold sWd at s
  rcases s with ⟨rfl, _⟩ | ⟨rfl, rfl⟩
  · exact cK (by decide) rfl
  · rfl
theorem kBk {a k : Nat} (s : sBk a k) : core a k = true := by
  unfold sBk at s
  rcases s with rfl | rfl
  · exact cK (by decide) rfl
  · exact cK (by decide) rfl
theorem kPt {a k : Nat} (s : sPt a k) : core a k = true := by
  unfold sPt at s
  rcases s with ⟨rfl, _⟩ | rfl | ⟨rfl, rfl⟩ | ⟨rfl, _⟩
  · exact cK (by decide) rfl
  · exact cK (by decide) rfl
  · rfl
  · exact cK (by decide) rfl
theorem kHt {a k : Nat} (s : sHt a k) : core a k = true := by
  unfold sHt at s
  rcases s with ⟨rfl, _⟩ | rfl | ⟨rfl, rfl⟩ | ⟨rfl, _⟩
  · exact cK (by decide) rfl
  · exact cK (by decide) rfl
  · rfl
  · exact cK (by decide) rfl
theorem kTh {a k : Nat} (s : sTh a k) : core a k = true := by
  unfold sTh at s
  rcases s with ⟨rfl, _⟩ | rfl | ⟨rfl, rfl⟩ | ⟨rfl, _⟩
  · exact cK (by decide) rfl
  · exact cK (by decide) rfl
  · rfl
  · exact cK (by decide) rfl
theorem kSp {a k : Nat} (s : sSp a k) : core a k = true := by
  unfold sSp at s
  rcases s with ⟨rfl, _⟩ | rfl | ⟨rfl, rfl⟩ | ⟨rfl, _⟩
  · exact cK (by decide) rfl
  · exact cK (by decide) rfl
  · rfl
  · exact cK (by decide) rfl
theorem kSm {a k : Nat} (s : sSm a k) : core a k = true := by
  unfold sSm at s
  rcases s with ⟨rfl, _⟩ | ⟨rfl, rfl⟩ | ⟨rfl, _⟩
  · exact cK (by decide) rfl
  · rfl
  · exact cK (by decide) rfl
theorem kFi {a k : Nat} (s : sFi a k) : core a k = true := by
  unfold sFi at s
  rcases s with rfl | ⟨rfl, _⟩
  · exact cK (by decide) rfl
  · exact cK (by decide) rfl
theorem kWi {a k : Nat} (s : sWi a k) : core a k = true := by
  unfold sWi at s
  rcases s with h | ⟨rfl, _⟩
  · exact cR 61 8 (by decide +kernel) (by omega) (by omega)
  · exact cK (by decide) rfl
theorem kKR {a k : Nat} (s : sKR a k) : core a k = true := by
  unfold sKR at s
  rcases s with ⟨rfl, _⟩ | h | ⟨rfl, rfl | rfl⟩ | ⟨rfl, _⟩ | rfl
  · exact cK (by decide) rfl
  · exact cR 154 54 (by decide +kernel) (by omega) (by omega)
  · rfl
  · rfl
  · exact cK (by decide) rfl
  · exact cK (by decide) rfl
theorem kTp {a k : Nat} (s : sTp a k) : core a k = true := by
  unfold sTp at s
  rcases s with ⟨rfl, _⟩ | ⟨rfl, rfl⟩ | rfl | rfl
  · exact cK (by decide) rfl
  · rfl
  · exact cK (by decide) rfl
  · exact cK (by decide) rfl
theorem kFt {a k : Nat} (s : sFt a k) : core a k = true := by
  unfold sFt at s
  rcases s with ⟨rfl, _⟩ | ⟨rfl, rfl | rfl⟩
  · exact cK (by decide) rfl
  · rfl
  · rfl
theorem kCn {a k : Nat} (s : sCn a k) : core a k = true := by
  unfold sCn at s
  rcases s with ⟨rfl, rfl⟩ | h | rfl | ⟨rfl, _⟩ | ⟨rfl | rfl | rfl | rfl, _⟩ | rfl
  · rfl
  · exact cR 1 8 (by decide +kernel) (by omega) (by omega)
  · exact cK (by decide) rfl
  · exact cK (by decide) rfl
  · exact cK (by decide) rfl
  · exact cK (by decide) rfl
  · exact cK (by decide) rfl
  · exact cK (by decide) rfl
  · exact cK (by decide) rfl
theorem kIm {a k : Nat} (s : sIm a k) : core a k = true := by
  unfold sIm at s
  rcases s with ⟨rfl, _⟩ | ⟨rfl, rfl⟩ | h | rfl
  · exact cK (by decide) rfl
  · rfl
  · by_cases c : a < 86
    · exact cR 70 16 (by decide +kernel) (by omega) (by omega)
    · exact cR 88 35 (by decide +kernel) (by omega) (by omega)
  · exact cK (by decide) rfl
theorem sIn_core {a k : Nat} (s : sIn a k) : core a k = true := by
  unfold sIn at s
  rcases s with s | s | s | s | s | s | s | s | s | s | s | s | s | s | s | s | s | s
  · exact kSc s
  · exact kLw s
  · exact kPl s
  · exact kTb s
  · exact kWd s
  · exact kBk s
  · exact kPt s
  · exact kHt s
  · exact kTh s
  · exact kSp s
  · exact kSm s
  · exact kFi s
  · exact kWi s
  · exact kKR s
  · exact kTp s
  · exact kFt s
  · exact kCn s
  · exact kIm s
theorem Inv_cor (hI : Inv v) (c : cor v v') : Inv v' := Inv_all hI (fun a k s => c a k (sIn_core s))
theorem Inv_told (hI : Inv v) : Inv (up v 208 0 0) := Inv_cor hI cor_told
theorem cor_10 (c : cor v v') : v' 10 = v 10 := funext fun k => c 10 k (cK (by decide) rfl)
end AG
/-- a call of the class, then of the model: the same answer, and all holds as before -/
def CallOk (jc jm : Nat) (as : List xv) (z : xZ) (v : xV) : Prop := EvM TB 100 jc z v (.inr (.inl 16) :: as) (fun z1 y r => (∃ i : Int, r = .inl i) ∧ rom z z1 ∧ y 10 = v 10 ∧ EvM TB 100 jm z1 y (.inr (.inl 208) :: as) (fun z2 y' r' => z2 = z1 ∧ r' = r ∧ Inv y' ∧ y' 10 = v 10))
