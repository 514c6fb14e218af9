/-! ===== calls that change one thing ===== -/
set_option maxHeartbeats 1000000
section IX
variable {v v' : xV}
theorem Inv_Pt (hI : Inv v) (h : ∀ a k, sIn a k → ¬ (sPt a k) → v' a k = v a k) (nPt : iRo 34 235 46 12 1 99 17 v' v') : Inv v' := by
  refine Inv_mk hI (E := fun a k => sPt a k) h (.inl fun a k s e => ?_) (.inl fun a k s e => ?_) (.inl fun a k s e => ?_) (.inl fun a k s e => ?_) (.inl fun a k s e => ?_) (.inl fun a k s e => ?_) (.inr nPt) (.inl fun a k s e => ?_) (.inl fun a k s e => ?_) (.inl fun a k s e => ?_) (.inl fun a k s e => ?_) (.inl fun a k s e => ?_) (.inl fun a k s e => ?_) (.inl fun a k s e => ?_) (.inl fun a k s e => ?_) (.inl fun a k s e => ?_) (.inl fun a k s e => ?_) (.inl fun a k s e => ?_)
  · have e : sPt a k := e
    unfold sSc at s
    unfold sPt at e
    omega
  · have e : sPt a k := e
    unfold sLw at s
    unfold sPt at e
    omega
  · have e : sPt a k := e
    unfold sPl at s
    unfold sPt at e
    omega
  · have e : sPt a k := e
    unfold sTb at s
    unfold sPt at e
    omega
  · have e : sPt a k := e
    unfold sWd at s
    unfold sPt at e
    omega
  · have e : sPt a k := e
    unfold sBk at s
    unfold sPt at e
    omega
  · have e : sPt a k := e
    unfold sHt at s
    unfold sPt at e
    omega
  · have e : sPt a k := e
    unfold sTh at s
    unfold sPt at e
    omega
  · have e : sPt a k := e
    unfold sSp at s
    unfold sPt at e
    omega
  · have e : sPt a k := e
    unfold sSm at s
    unfold sPt at e
    omega
  · have e : sPt a k := e
    unfold sFi at s
    unfold sPt at e
    omega
  · have e : sPt a k := e
    unfold sWi at s
    unfold sPt at e
    omega
  · have e : sPt a k := e
    unfold sKR at s
    unfold sPt at e
    omega
  · have e : sPt a k := e
    unfold sTp at s
    unfold sPt at e
    omega
  · have e : sPt a k := e
    unfold sFt at s
    unfold sPt at e
    omega
  · have e : sPt a k := e
    unfold sCn at s
    unfold sPt at e
    omega
  · have e : sPt a k := e
    unfold sIm at s
    unfold sPt at e
    omega
theorem Inv_Ht (hI : Inv v) (h : ∀ a k, sIn a k → ¬ (sHt a k) → v' a k = v a k) (nHt : iRo 36 242 54 12 0 99 17 v' v') : Inv v' := by
  refine Inv_mk hI (E := fun a k => sHt a k) h (.inl fun a k s e => ?_) (.inl fun a k s e => ?_) (.inl fun a k s e => ?_) (.inl fun a k s e => ?_) (.inl fun a k s e => ?_) (.inl fun a k s e => ?_) (.inl fun a k s e => ?_) (.inr nHt) (.inl fun a k s e => ?_) (.inl fun a k s e => ?_) (.inl fun a k s e => ?_) (.inl fun a k s e => ?_) (.inl fun a k s e => ?_) (.inl fun a k s e => ?_) (.inl fun a k s e => ?_) (.inl fun a k s e => ?_) (.inl fun a k s e => ?_) (.inl fun a k s e => ?_)
  · have e : sHt a k := e
    unfold sSc at s
    unfold sHt at e
    omega
  · have e : sHt a k := e
    unfold sLw at s
    unfold sHt at e
    omega
  · have e : sHt a k := e
    unfold sPl at s
    unfold sHt at e
    omega
  · have e : sHt a k := e
    unfold sTb at s
    unfold sHt at e
    omega
  · have e : sHt a k := e
    unfold sWd at s
    unfold sHt at e
    omega
  · have e : sHt a k := e
    unfold sBk at s
    unfold sHt at e
    omega
  · have e : sHt a k := e
    unfold sPt at s
    unfold sHt at e
    omega
  · have e : sHt a k := e
    unfold sTh at s
    unfold sHt at e
    omega
  · have e : sHt a k := e
    unfold sSp at s
    unfold sHt at e
    omega
  · have e : sHt a k := e
    unfold sSm at s
    unfold sHt at e
    omega
  · have e : sHt a k := e
    unfold sFi at s
    unfold sHt at e
    omega
  · have e : sHt a k := e
    unfold sWi at s
    unfold sHt at e
    omega
  · have e : sHt a k := e
    unfold sKR at s
    unfold sHt at e
    omega
  · have e : sHt a k := e
    unfold sTp at s
    unfold sHt at e
    omega
  · have e : sHt a k := e
    unfold sFt at s
    unfold sHt at e
    omega
  · have e : sHt a k := e
    unfold sCn at s
    unfold sHt at e
    omega
  · have e : sHt a k := e
    unfold sIm at s
    unfold sHt at e
    omega
theorem Inv_Th (hI : Inv v) (h : ∀ a k, sIn a k → ¬ (sTh a k) → v' a k = v a k) (nTh : iRo 38 243 56 9 1 60 17 v' v') : Inv v' := by
  refine Inv_mk hI (E := fun a k => sTh a k) h (.inl fun a k s e => ?_) (.inl fun a k s e => ?_) (.inl fun a k s e => ?_) (.inl fun a k s e => ?_) (.inl fun a k s e => ?_) (.inl fun a k s e => ?_) (.inl fun a k s e => ?_) (.inl fun a k s e => ?_) (.inr nTh) (.inl fun a k s e => ?_) (.inl fun a k s e => ?_) (.inl fun a k s e => ?_) (.inl fun a k s e => ?_) (.inl fun a k s e => ?_) (.inl fun a k s e => ?_) (.inl fun a k s e => ?_) (.inl fun a k s e => ?_) (.inl fun a k s e => ?_)
  · have e : sTh a k := e
    unfold sSc at s
    unfold sTh at e
    omega
  · have e : sTh a k := e
    unfold sLw at s
    unfold sTh at e
    omega
  · have e : sTh a k := e
    unfold sPl at s
    unfold sTh at e
    omega
  · have e : sTh a k := e
    unfold sTb at s
    unfold sTh at e
    omega
  · have e : sTh a k := e
    unfold sWd at s
    unfold sTh at e
    omega
  · have e : sTh a k := e
    unfold sBk at s
    unfold sTh at e
    omega
  · have e : sTh a k := e
    unfold sPt at s
    unfold sTh at e
    omega
  · have e : sTh a k := e
    unfold sHt at s
    unfold sTh at e
    omega
  · have e : sTh a k := e
    unfold sSp at s
    unfold sTh at e
    omega
  · have e : sTh a k := e
    unfold sSm at s
    unfold sTh at e
    omega
  · have e : sTh a k := e
    unfold sFi at s
    unfold sTh at e
    omega
  · have e : sTh a k := e
    unfold sWi at s
    unfold sTh at e
    omega
  · have e : sTh a k := e
    unfold sKR at s
    unfold sTh at e
    omega
  · have e : sTh a k := e
    unfold sTp at s
    unfold sTh at e
    omega
  · have e : sTh a k := e
    unfold sFt at s
    unfold sTh at e
    omega
  · have e : sTh a k := e
    unfold sCn at s
    unfold sTh at e
    omega
  · have e : sTh a k := e
    unfold sIm at s
    unfold sTh at e
    omega
theorem Inv_Sp (hI : Inv v) (h : ∀ a k, sIn a k → ¬ (sSp a k) → v' a k = v a k) (nSp : iRo 40 246 61 10 0 1023 17 v' v') : Inv v' := by
  refine Inv_mk hI (E := fun a k => sSp a k) h (.inl fun a k s e => ?_) (.inl fun a k s e => ?_) (.inl fun a k s e => ?_) (.inl fun a k s e => ?_) (.inl fun a k s e => ?_) (.inl fun a k s e => ?_) (.inl fun a k s e => ?_) (.inl fun a k s e => ?_) (.inl fun a k s e => ?_) (.inr nSp) (.inl fun a k s e => ?_) (.inl fun a k s e => ?_) (.inl fun a k s e => ?_) (.inl fun a k s e => ?_) (.inl fun a k s e => ?_) (.inl fun a k s e => ?_) (.inl fun a k s e => ?_) (.inl fun a k s e => ?_)
  · have e : sSp a k := e
    unfold sSc at s
    unfold sSp at e
    omega
  · have e : sSp a k := e
    unfold sLw at s
    unfold sSp at e
    omega
  · have e : sSp a k := e
    unfold sPl at s
    unfold sSp at e
    omega
  · have e : sSp a k := e
    unfold sTb at s
    unfold sSp at e
    omega
  · have e : sSp a k := e
    unfold sWd at s
    unfold sSp at e
    omega
  · have e : sSp a k := e
    unfold sBk at s
    unfold sSp at e
    omega
  · have e : sSp a k := e
    unfold sPt at s
    unfold sSp at e
    omega
  · have e : sSp a k := e
    unfold sHt at s
    unfold sSp at e
    omega
  · have e : sSp a k := e
    unfold sTh at s
    unfold sSp at e
    omega
  · have e : sSp a k := e
    unfold sSm at s
    unfold sSp at e
    omega
  · have e : sSp a k := e
    unfold sFi at s
    unfold sSp at e
    omega
  · have e : sSp a k := e
    unfold sWi at s
    unfold sSp at e
    omega
  · have e : sSp a k := e
    unfold sKR at s
    unfold sSp at e
    omega
  · have e : sSp a k := e
    unfold sTp at s
    unfold sSp at e
    omega
  · have e : sSp a k := e
    unfold sFt at s
    unfold sSp at e
    omega
  · have e : sSp a k := e
    unfold sCn at s
    unfold sSp at e
    omega
  · have e : sSp a k := e
    unfold sIm at s
    unfold sSp at e
    omega
theorem Inv_Sm (hI : Inv v) (h : ∀ a k, sIn a k → ¬ (sSm a k) → v' a k = v a k) (nSm : iSm 17 v' v') : Inv v' := by
  refine Inv_mk hI (E := fun a k => sSm a k) h (.inl fun a k s e => ?_) (.inl fun a k s e => ?_) (.inl fun a k s e => ?_) (.inl fun a k s e => ?_) (.inl fun a k s e => ?_) (.inl fun a k s e => ?_) (.inl fun a k s e => ?_) (.inl fun a k s e => ?_) (.inl fun a k s e => ?_) (.inl fun a k s e => ?_) (.inr nSm) (.inl fun a k s e => ?_) (.inl fun a k s e => ?_) (.inl fun a k s e => ?_) (.inl fun a k s e => ?_) (.inl fun a k s e => ?_) (.inl fun a k s e => ?_) (.inl fun a k s e => ?_)
  · have e : sSm a k := e
    unfold sSc at s
    unfold sSm at e
    omega
  · have e : sSm a k := e
    unfold sLw at s
    unfold sSm at e
    omega
  · have e : sSm a k := e
    unfold sPl at s
    unfold sSm at e
    omega
  · have e : sSm a k := e
    unfold sTb at s
    unfold sSm at e
    omega
  · have e : sSm a k := e
    unfold sWd at s
    unfold sSm at e
    omega
  · have e : sSm a k := e
    unfold sBk at s
    unfold sSm at e
    omega
  · have e : sSm a k := e
    unfold sPt at s
    unfold sSm at e
    omega
  · have e : sSm a k := e
    unfold sHt at s
    unfold sSm at e
    omega
  · have e : sSm a k := e
    unfold sTh at s
    unfold sSm at e
    omega
  · have e : sSm a k := e
    unfold sSp at s
    unfold sSm at e
    omega
  · have e : sSm a k := e
    unfold sFi at s
    unfold sSm at e
    omega
  · have e : sSm a k := e
    unfold sWi at s
    unfold sSm at e
    omega
  · have e : sSm a k := e
    unfold sKR at s
    unfold sSm at e
    omega
  · have e : sSm a k := e
    unfold sTp at s
    unfold sSm at e
    omega
  · have e : sSm a k := e
    unfold sFt at s
    unfold sSm at e
    omega
  · have e : sSm a k := e
    unfold sCn at s
    unfold sSm at e
    omega
  · have e : sSm a k := e
    unfold sIm at s
    unfold sSm at e
    omega
theorem Inv_Fi (hI : Inv v) (h : ∀ a k, sIn a k → ¬ (sFi a k) → v' a k = v a k) (nFi : iFi 17 v' v') : Inv v' := by
  refine Inv_mk hI (E := fun a k => sFi a k) h (.inl fun a k s e => ?_) (.inl fun a k s e => ?_) (.inl fun a k s e => ?_) (.inl fun a k s e => ?_) (.inl fun a k s e => ?_) (.inl fun a k s e => ?_) (.inl fun a k s e => ?_) (.inl fun a k s e => ?_) (.inl fun a k s e => ?_) (.inl fun a k s e => ?_) (.inl fun a k s e => ?_) (.inr nFi) (.inl fun a k s e => ?_) (.inl fun a k s e => ?_) (.inl fun a k s e => ?_) (.inl fun a k s e => ?_) (.inl fun a k s e => ?_) (.inl fun a k s e => ?_)
  · have e : sFi a k := e
    unfold sSc at s
    unfold sFi at e
    omega
  · have e : sFi a k := e
    unfold sLw at s
    unfold sFi at e
    omega
  · have e : sFi a k := e
    unfold sPl at s
    unfold sFi at e
    omega
  · have e : sFi a k := e
    unfold sTb at s
    unfold sFi at e
    omega
  · have e : sFi a k := e
    unfold sWd at s
    unfold sFi at e
    omega
  · have e : sFi a k := e
    unfold sBk at s
    unfold sFi at e
    omega
  · have e : sFi a k := e
    unfold sPt at s
    unfold sFi at e
    omega
  · have e : sFi a k := e
    unfold sHt at s
    unfold sFi at e
    omega
  · have e : sFi a k := e
    unfold sTh at s
    unfold sFi at e
    omega
  · have e : sFi a k := e
    unfold sSp at s
    unfold sFi at e
    omega
  · have e : sFi a k := e
    unfold sSm at s
    unfold sFi at e
    omega
  · have e : sFi a k := e
    unfold sWi at s
    unfold sFi at e
    omega
  · have e : sFi a k := e
    unfold sKR at s
    unfold sFi at e
    omega
  · have e : sFi a k := e
    unfold sTp at s
    unfold sFi at e
    omega
  · have e : sFi a k := e
    unfold sFt at s
    unfold sFi at e
    omega
  · have e : sFi a k := e
    unfold sCn at s
    unfold sFi at e
    omega
  · have e : sFi a k := e
    unfold sIm at s
    unfold sFi at e
    omega
theorem Inv_Wi (hI : Inv v) (h : ∀ a k, sIn a k → ¬ (sWi a k) → v' a k = v a k) (nWi : iWi 17 v' v') : Inv v' := by
  refine Inv_mk hI (E := fun a k => sWi a k) h (.inl fun a k s e => ?_) (.inl fun a k s e => ?_) (.inl fun a k s e => ?_) (.inl fun a k s e => ?_) (.inl fun a k s e => ?_) (.inl fun a k s e => ?_) (.inl fun a k s e => ?_) (.inl fun a k s e => ?_) (.inl fun a k s e => ?_) (.inl fun a k s e => ?_) (.inl fun a k s e => ?_) (.inl fun a k s e => ?_) (.inr nWi) (.inl fun a k s e => ?_) (.inl fun a k s e => ?_) (.inl fun a k s e => ?_) (.inl fun a k s e => ?_) (.inl fun a k s e => ?_)
  · have e : sWi a k := e
    unfold sSc at s
    unfold sWi at e
    omega
  · have e : sWi a k := e
    unfold sLw at s
    unfold sWi at e
    omega
  · have e : sWi a k := e
    unfold sPl at s
    unfold sWi at e
    omega
  · have e : sWi a k := e
    unfold sTb at s
    unfold sWi at e
    omega
  · have e : sWi a k := e
    unfold sWd at s
    unfold sWi at e
    omega
  · have e : sWi a k := e
    unfold sBk at s
    unfold sWi at e
    omega
  · have e : sWi a k := e
    unfold sPt at s
    unfold sWi at e
    omega
  · have e : sWi a k := e
    unfold sHt at s
    unfold sWi at e
    omega
  · have e : sWi a k := e
    unfold sTh at s
    unfold sWi at e
    omega
  · have e : sWi a k := e
    unfold sSp at s
    unfold sWi at e
    omega
  · have e : sWi a k := e
    unfold sSm at s
    unfold sWi at e
    omega
  · have e : sWi a k := e
    unfold sFi at s
    unfold sWi at e
    omega
  · have e : sWi a k := e
    unfold sKR at s
    unfold sWi at e
    omega
  · have e : sWi a k := e
    unfold sTp at s
    unfold sWi at e
    omega
  · have e : sWi a k := e
    unfold sFt at s
    unfold sWi at e
    omega
  · have e : sWi a k := e
    unfold sCn at s
    unfold sWi at e
    omega
  · have e : sWi a k := e
    unfold sIm at s
    unfold sWi at e
    omega
theorem Inv_Tp (hI : Inv v) (h : ∀ a k, sIn a k → ¬ (sTp a k) → v' a k = v a k) (nTp : iTp v') : Inv v' := by
  refine Inv_mk hI (E := fun a k => sTp a k) h (.inl fun a k s e => ?_) (.inl fun a k s e => ?_) (.inl fun a k s e => ?_) (.inl fun a k s e => ?_) (.inl fun a k s e => ?_) (.inl fun a k s e => ?_) (.inl fun a k s e => ?_) (.inl fun a k s e => ?_) (.inl fun a k s e => ?_) (.inl fun a k s e => ?_) (.inl fun a k s e => ?_) (.inl fun a k s e => ?_) (.inl fun a k s e => ?_) (.inl fun a k s e => ?_) (.inr nTp) (.inl fun a k s e => ?_) (.inl fun a k s e => ?_) (.inl fun a k s e => ?_)
  · have e : sTp a k := e
    unfold sSc at s
    unfold sTp at e
    omega
  · have e : sTp a k := e
    unfold sLw at s
    unfold sTp at e
    omega
  · have e : sTp a k := e
    unfold sPl at s
    unfold sTp at e
    omega
  · have e : sTp a k := e
    unfold sTb at s
    unfold sTp at e
    omega
  · have e : sTp a k := e
    unfold sWd at s
    unfold sTp at e
    omega
  · have e : sTp a k := e
    unfold sBk at s
    unfold sTp at e
    omega
  · have e : sTp a k := e
    unfold sPt at s
    unfold sTp at e
    omega
  · have e : sTp a k := e
    unfold sHt at s
    unfold sTp at e
    omega
  · have e : sTp a k := e
    unfold sTh at s
    unfold sTp at e
    omega
  · have e : sTp a k := e
    unfold sSp at s
    unfold sTp at e
    omega
  · have e : sTp a k := e
    unfold sSm at s
    unfold sTp at e
    omega
  · have e : sTp a k := e
    unfold sFi at s
    unfold sTp at e
    omega
  · have e : sTp a k := e
    unfold sWi at s
    unfold sTp at e
    omega
  · have e : sTp a k := e
    unfold sKR at s
    unfold sTp at e
    omega
  · have e : sTp a k := e
    unfold sFt at s
    unfold sTp at e
    omega
  · have e : sTp a k := e
    unfold sCn at s
    unfold sTp at e
    omega
  · have e : sTp a k := e
    unfold sIm at s
    unfold sTp at e
    omega
theorem Inv_S (hI : Inv v) (h : ∀ a k, sIn a k → ¬ (sSc a k ∨ sPl a k ∨ sBk a k ∨ sKR a k) → v' a k = v a k) (nSc : iSc 17 v' v') (nPl : iPl 17 v' v') (nBk : v' 69 = v' 213) (nKR : iKR v') : Inv v' := by
  refine Inv_mk hI (E := fun a k => sSc a k ∨ sPl a k ∨ sBk a k ∨ sKR a k) h (.inr nSc) (.inl fun a k s e => ?_) (.inr nPl) (.inl fun a k s e => ?_) (.inl fun a k s e => ?_) (.inr nBk) (.inl fun a k s e => ?_) (.inl fun a k s e => ?_) (.inl fun a k s e => ?_) (.inl fun a k s e => ?_) (.inl fun a k s e => ?_) (.inl fun a k s e => ?_) (.inl fun a k s e => ?_) (.inr nKR) (.inl fun a k s e => ?_) (.inl fun a k s e => ?_) (.inl fun a k s e => ?_) (.inl fun a k s e => ?_)
  · have e : sSc a k ∨ sPl a k ∨ sBk a k ∨ sKR a k := e
    unfold sLw at s
    unfold sSc sPl sBk sKR at e
    omega
  · have e : sSc a k ∨ sPl a k ∨ sBk a k ∨ sKR a k := e
    unfold sTb at s
    unfold sSc sPl sBk sKR at e
    omega
  · have e : sSc a k ∨ sPl a k ∨ sBk a k ∨ sKR a k := e
    unfold sWd at s
    unfold sSc sPl sBk sKR at e
    omega
  · have e : sSc a k ∨ sPl a k ∨ sBk a k ∨ sKR a k := e
    unfold sPt at s
    unfold sSc sPl sBk sKR at e
    omega
  · have e : sSc a k ∨ sPl a k ∨ sBk a k ∨ sKR a k := e
    unfold sHt at s
    unfold sSc sPl sBk sKR at e
    omega
  · have e : sSc a k ∨ sPl a k ∨ sBk a k ∨ sKR a k := e
    unfold sTh at s
    unfold sSc sPl sBk sKR at e
    omega
  · have e : sSc a k ∨ sPl a k ∨ sBk a k ∨ sKR a k := e
    unfold sSp at s
    unfold sSc sPl sBk sKR at e
    omega
  · have e : sSc a k ∨ sPl a k ∨ sBk a k ∨ sKR a k := e
    unfold sSm at s
    unfold sSc sPl sBk sKR at e
    omega
  · have e : sSc a k ∨ sPl a k ∨ sBk a k ∨ sKR a k := e
    unfold sFi at s
    unfold sSc sPl sBk sKR at e
    omega
  · have e : sSc a k ∨ sPl a k ∨ sBk a k ∨ sKR a k := e
    unfold sWi at s
    unfold sSc sPl sBk sKR at e
    omega
  · have e : sSc a k ∨ sPl a k ∨ sBk a k ∨ sKR a k := e
    unfold sTp at s
    unfold sSc sPl sBk sKR at e
    omega
  · have e : sSc a k ∨ sPl a k ∨ sBk a k ∨ sKR a k := e
    unfold sFt at s
    unfold sSc sPl sBk sKR at e
    omega
  · have e : sSc a k ∨ sPl a k ∨ sBk a k ∨ sKR a k := e
    unfold sCn at s
    unfold sSc sPl sBk sKR at e
    omega
  · have e : sSc a k ∨ sPl a k ∨ sBk a k ∨ sKR a k := e
    unfold sIm at s
    unfold sSc sPl sBk sKR at e
    omega
theorem Inv_T0 (hI : Inv v) (h : ∀ a k, sIn a k → ¬ (sLw a k ∨ sTp a k ∨ sFt a k) → v' a k = v a k) (nLw : iLw 17 v' v') (nTp : iTp v') (nFt : iFt v') : Inv v' := by
  refine Inv_mk hI (E := fun a k => sLw a k ∨ sTp a k ∨ sFt a k) h (.inl fun a k s e => ?_) (.inr nLw) (.inl fun a k s e => ?_) (.inl fun a k s e => ?_) (.inl fun a k s e => ?_) (.inl fun a k s e => ?_) (.inl fun a k s e => ?_) (.inl fun a k s e => ?_) (.inl fun a k s e => ?_) (.inl fun a k s e => ?_) (.inl fun a k s e => ?_) (.inl fun a k s e => ?_) (.inl fun a k s e => ?_) (.inl fun a k s e => ?_) (.inr nTp) (.inr nFt) (.inl fun a k s e => ?_) (.inl fun a k s e => ?_)
  · have e : sLw a k ∨ sTp a k ∨ sFt a k := e
    unfold sSc at s
    unfold sLw sTp sFt at e
    omega
  · have e : sLw a k ∨ sTp a k ∨ sFt a k := e
    unfold sPl at s
    unfold sLw sTp sFt at e
    omega
  · have e : sLw a k ∨ sTp a k ∨ sFt a k := e
    unfold sTb at s
    unfold sLw sTp sFt at e
    omega
  · have e : sLw a k ∨ sTp a k ∨ sFt a k := e
    unfold sWd at s
    unfold sLw sTp sFt at e
    omega
  · have e : sLw a k ∨ sTp a k ∨ sFt a k := e
    unfold sBk at s
    unfold sLw sTp sFt at e
    omega
  · have e : sLw a k ∨ sTp a k ∨ sFt a k := e
    unfold sPt at s
    unfold sLw sTp sFt at e
    omega
  · have e : sLw a k ∨ sTp a k ∨ sFt a k := e
    unfold sHt at s
    unfold sLw sTp sFt at e
    omega
  · have e : sLw a k ∨ sTp a k ∨ sFt a k := e
    unfold sTh at s
    unfold sLw sTp sFt at e
    omega
  · have e : sLw a k ∨ sTp a k ∨ sFt a k := e
    unfold sSp at s
    unfold sLw sTp sFt at e
    omega
  · have e : sLw a k ∨ sTp a k ∨ sFt a k := e
    unfold sSm at s
    unfold sLw sTp sFt at e
    omega
  · have e : sLw a k ∨ sTp a k ∨ sFt a k := e
    unfold sFi at s
    unfold sLw sTp sFt at e
    omega
  · have e : sLw a k ∨ sTp a k ∨ sFt a k := e
    unfold sWi at s
    unfold sLw sTp sFt at e
    omega
  · have e : sLw a k ∨ sTp a k ∨ sFt a k := e
    unfold sKR at s
    unfold sLw sTp sFt at e
    omega
  · have e : sLw a k ∨ sTp a k ∨ sFt a k := e
    unfold sCn at s
    unfold sLw sTp sFt at e
    omega
  · have e : sLw a k ∨ sTp a k ∨ sFt a k := e
    unfold sIm at s
    unfold sLw sTp sFt at e
    omega
theorem Inv_T1 (hI : Inv v) (h : ∀ a k, sIn a k → ¬ ((35 ≤ a ∧ a ≤ 41) ∨ (a = 208 ∧ (k = 32 ∨ k = 3)) ∨ a = 224 ∨ (a = 16 ∧ k = 5) ∨ sTp a k ∨ sFt a k) → v' a k = v a k) (nPl : iPl 17 v' v') (nKR : iKR v') (nTp : iTp v') (nFt : iFt v') : Inv v' := by
  refine Inv_mk hI (E := fun a k => (35 ≤ a ∧ a ≤ 41) ∨ (a = 208 ∧ (k = 32 ∨ k = 3)) ∨ a = 224 ∨ (a = 16 ∧ k = 5) ∨ sTp a k ∨ sFt a k) h (.inl fun a k s e => ?_) (.inl fun a k s e => ?_) (.inr nPl) (.inl fun a k s e => ?_) (.inl fun a k s e => ?_) (.inl fun a k s e => ?_) (.inl fun a k s e => ?_) (.inl fun a k s e => ?_) (.inl fun a k s e => ?_) (.inl fun a k s e => ?_) (.inl fun a k s e => ?_) (.inl fun a k s e => ?_) (.inl fun a k s e => ?_) (.inr nKR) (.inr nTp) (.inr nFt) (.inl fun a k s e => ?_) (.inl fun a k s e => ?_)
  · have e : (35 ≤ a ∧ a ≤ 41) ∨ (a = 208 ∧ (k = 32 ∨ k = 3)) ∨ a = 224 ∨ (a = 16 ∧ k = 5) ∨ sTp a k ∨ sFt a k := e
    unfold sSc at s
    unfold sTp sFt at e
    omega
  · have e : (35 ≤ a ∧ a ≤ 41) ∨ (a = 208 ∧ (k = 32 ∨ k = 3)) ∨ a = 224 ∨ (a = 16 ∧ k = 5) ∨ sTp a k ∨ sFt a k := e
    unfold sLw at s
    unfold sTp sFt at e
    omega
  · have e : (35 ≤ a ∧ a ≤ 41) ∨ (a = 208 ∧ (k = 32 ∨ k = 3)) ∨ a = 224 ∨ (a = 16 ∧ k = 5) ∨ sTp a k ∨ sFt a k := e
    unfold sTb at s
    unfold sTp sFt at e
    omega
  · have e : (35 ≤ a ∧ a ≤ 41) ∨ (a = 208 ∧ (k = 32 ∨ k = 3)) ∨ a = 224 ∨ (a = 16 ∧ k = 5) ∨ sTp a k ∨ sFt a k := e
    unfold sWd at s
    unfold sTp sFt at e
    omega
  · have e : (35 ≤ a ∧ a ≤ 41) ∨ (a = 208 ∧ (k = 32 ∨ k = 3)) ∨ a = 224 ∨ (a = 16 ∧ k = 5) ∨ sTp a k ∨ sFt a k := e
    unfold sBk at s
    unfold sTp sFt at e
    omega
  · have e : (35 ≤ a ∧ a ≤ 41) ∨ (a = 208 ∧ (k = 32 ∨ k = 3)) ∨ a = 224 ∨ (a = 16 ∧ k = 5) ∨ sTp a k ∨ sFt a k := e
    unfold sPt at s
    unfold sTp sFt at e
    omega
  · have e : (35 ≤ a ∧ a ≤ 41) ∨ (a = 208 ∧ (k = 32 ∨ k = 3)) ∨ a = 224 ∨ (a = 16 ∧ k = 5) ∨ sTp a k ∨ sFt a k := e
    unfold sHt at s
    unfold sTp sFt at e
    omega
  · have e : (35 ≤ a ∧ a ≤ 41) ∨ (a = 208 ∧ (k = 32 ∨ k = 3)) ∨ a = 224 ∨ (a = 16 ∧ k = 5) ∨ sTp a k ∨ sFt a k := e
    unfold sTh at s
    unfold sTp sFt at e
    omega
  · have e : (35 ≤ a ∧ a ≤ 41) ∨ (a = 208 ∧ (k = 32 ∨ k = 3)) ∨ a = 224 ∨ (a = 16 ∧ k = 5) ∨ sTp a k ∨ sFt a k := e
    unfold sSp at s
    unfold sTp sFt at e
    omega
  · have e : (35 ≤ a ∧ a ≤ 41) ∨ (a = 208 ∧ (k = 32 ∨ k = 3)) ∨ a = 224 ∨ (a = 16 ∧ k = 5) ∨ sTp a k ∨ sFt a k := e
    unfold sSm at s
    unfold sTp sFt at e
    omega
  · have e : (35 ≤ a ∧ a ≤ 41) ∨ (a = 208 ∧ (k = 32 ∨ k = 3)) ∨ a = 224 ∨ (a = 16 ∧ k = 5) ∨ sTp a k ∨ sFt a k := e
    unfold sFi at s
    unfold sTp sFt at e
    omega
  · have e : (35 ≤ a ∧ a ≤ 41) ∨ (a = 208 ∧ (k = 32 ∨ k = 3)) ∨ a = 224 ∨ (a = 16 ∧ k = 5) ∨ sTp a k ∨ sFt a k := e
    unfold sWi at s
    unfold sTp sFt at e
    omega
  · have e : (35 ≤ a ∧ a ≤ 41) ∨ (a = 208 ∧ (k = 32 ∨ k = 3)) ∨ a = 224 ∨ (a = 16 ∧ k = 5) ∨ sTp a k ∨ sFt a k := e
    unfold sCn at s
    unfold sTp sFt at e
    omega
  · have e : (35 ≤ a ∧ a ≤ 41) ∨ (a = 208 ∧ (k = 32 ∨ k = 3)) ∨ a = 224 ∨ (a = 16 ∧ k = 5) ∨ sTp a k ∨ sFt a k := e
    unfold sIm at s
    unfold sTp sFt at e
    omega
theorem Inv_T2 (hI : Inv v) (h : ∀ a k, sIn a k → ¬ ((18 ≤ a ∧ a ≤ 26) ∨ a = 209 ∨ (a = 17 ∧ k = 5) ∨ (a = 208 ∧ (k = 34 ∨ k = 3)) ∨ (a = 16 ∧ k = 5) ∨ sTp a k ∨ sFt a k) → v' a k = v a k) (nSc : iSc 17 v' v') (nPl : iPl 17 v' v') (nWd : iWd 17 v' v') (nKR : iKR v') (nTp : iTp v') (nFt : iFt v') : Inv v' := by
  refine Inv_mk hI (E := fun a k => (18 ≤ a ∧ a ≤ 26) ∨ a = 209 ∨ (a = 17 ∧ k = 5) ∨ (a = 208 ∧ (k = 34 ∨ k = 3)) ∨ (a = 16 ∧ k = 5) ∨ sTp a k ∨ sFt a k) h (.inr nSc) (.inl fun a k s e => ?_) (.inr nPl) (.inl fun a k s e => ?_) (.inr nWd) (.inl fun a k s e => ?_) (.inl fun a k s e => ?_) (.inl fun a k s e => ?_) (.inl fun a k s e => ?_) (.inl fun a k s e => ?_) (.inl fun a k s e => ?_) (.inl fun a k s e => ?_) (.inl fun a k s e => ?_) (.inr nKR) (.inr nTp) (.inr nFt) (.inl fun a k s e => ?_) (.inl fun a k s e => ?_)
  · have e : (18 ≤ a ∧ a ≤ 26) ∨ a = 209 ∨ (a = 17 ∧ k = 5) ∨ (a = 208 ∧ (k = 34 ∨ k = 3)) ∨ (a = 16 ∧ k = 5) ∨ sTp a k ∨ sFt a k := e
    unfold sLw at s
    unfold sTp sFt at e
    omega
  · have e : (18 ≤ a ∧ a ≤ 26) ∨ a = 209 ∨ (a = 17 ∧ k = 5) ∨ (a = 208 ∧ (k = 34 ∨ k = 3)) ∨ (a = 16 ∧ k = 5) ∨ sTp a k ∨ sFt a k := e
    unfold sTb at s
    unfold sTp sFt at e
    omega
  · have e : (18 ≤ a ∧ a ≤ 26) ∨ a = 209 ∨ (a = 17 ∧ k = 5) ∨ (a = 208 ∧ (k = 34 ∨ k = 3)) ∨ (a = 16 ∧ k = 5) ∨ sTp a k ∨ sFt a k := e
    unfold sBk at s
    unfold sTp sFt at e
    omega
  · have e : (18 ≤ a ∧ a ≤ 26) ∨ a = 209 ∨ (a = 17 ∧ k = 5) ∨ (a = 208 ∧ (k = 34 ∨ k = 3)) ∨ (a = 16 ∧ k = 5) ∨ sTp a k ∨ sFt a k := e
    unfold sPt at s
    unfold sTp sFt at e
    omega
  · have e : (18 ≤ a ∧ a ≤ 26) ∨ a = 209 ∨ (a = 17 ∧ k = 5) ∨ (a = 208 ∧ (k = 34 ∨ k = 3)) ∨ (a = 16 ∧ k = 5) ∨ sTp a k ∨ sFt a k := e
    unfold sHt at s
    unfold sTp sFt at e
    omega
  · have e : (18 ≤ a ∧ a ≤ 26) ∨ a = 209 ∨ (a = 17 ∧ k = 5) ∨ (a = 208 ∧ (k = 34 ∨ k = 3)) ∨ (a = 16 ∧ k = 5) ∨ sTp a k ∨ sFt a k := e
    unfold sTh at s
    unfold sTp sFt at e
    omega
  · have e : (18 ≤ a ∧ a ≤ 26) ∨ a = 209 ∨ (a = 17 ∧ k = 5) ∨ (a = 208 ∧ (k = 34 ∨ k = 3)) ∨ (a = 16 ∧ k = 5) ∨ sTp a k ∨ sFt a k := e
    unfold sSp at s
    unfold sTp sFt at e
    omega
  · have e : (18 ≤ a ∧ a ≤ 26) ∨ a = 209 ∨ (a = 17 ∧ k = 5) ∨ (a = 208 ∧ (k = 34 ∨ k = 3)) ∨ (a = 16 ∧ k = 5) ∨ sTp a k ∨ sFt a k := e
    unfold sSm at s
    unfold sTp sFt at e
    omega
  · have e : (18 ≤ a ∧ a ≤ 26) ∨ a = 209 ∨ (a = 17 ∧ k = 5) ∨ (a = 208 ∧ (k = 34 ∨ k = 3)) ∨ (a = 16 ∧ k = 5) ∨ sTp a k ∨ sFt a k := e
    unfold sFi at s
    unfold sTp sFt at e
    omega
  · have e : (18 ≤ a ∧ a ≤ 26) ∨ a = 209 ∨ (a = 17 ∧ k = 5) ∨ (a = 208 ∧ (k = 34 ∨ k = 3)) ∨ (a = 16 ∧ k = 5) ∨ sTp a k ∨ sFt a k := e
    unfold sWi at s
    unfold sTp sFt at e
    omega
  · have e : (18 ≤ a ∧ a ≤ 26) ∨ a = 209 ∨ (a = 17 ∧ k = 5) ∨ (a = 208 ∧ (k = 34 ∨ k = 3)) ∨ (a = 16 ∧ k = 5) ∨ sTp a k ∨ sFt a k := e
    unfold sCn at s
    unfold sTp sFt at e
    omega
  · have e : (18 ≤ a ∧ a ≤ 26) ∨ a = 209 ∨ (a = 17 ∧ k = 5) ∨ (a = 208 ∧ (k = 34 ∨ k = 3)) ∨ (a = 16 ∧ k = 5) ∨ sTp a k ∨ sFt a k := e
    unfold sIm at s
    unfold sTp sFt at e
    omega
theorem Inv_T3 (hI : Inv v) (h : ∀ a k, sIn a k → ¬ ((42 ≤ a ∧ a ≤ 48) ∨ (a = 208 ∧ (k = 37 ∨ k = 3)) ∨ a = 227 ∨ (a = 16 ∧ k = 5) ∨ sTp a k ∨ sFt a k) → v' a k = v a k) (nTb : iTb 17 v' v') (nKR : iKR v') (nTp : iTp v') (nFt : iFt v') : Inv v' := by
  refine Inv_mk hI (E := fun a k => (42 ≤ a ∧ a ≤ 48) ∨ (a = 208 ∧ (k = 37 ∨ k = 3)) ∨ a = 227 ∨ (a = 16 ∧ k = 5) ∨ sTp a k ∨ sFt a k) h (.inl fun a k s e => ?_) (.inl fun a k s e => ?_) (.inl fun a k s e => ?_) (.inr nTb) (.inl fun a k s e => ?_) (.inl fun a k s e => ?_) (.inl fun a k s e => ?_) (.inl fun a k s e => ?_) (.inl fun a k s e => ?_) (.inl fun a k s e => ?_) (.inl fun a k s e => ?_) (.inl fun a k s e => ?_) (.inl fun a k s e => ?_) (.inr nKR) (.inr nTp) (.inr nFt) (.inl fun a k s e => ?_) (.inl fun a k s e => ?_)
  · have e : (42 ≤ a ∧ a ≤ 48) ∨ (a = 208 ∧ (k = 37 ∨ k = 3)) ∨ a = 227 ∨ (a = 16 ∧ k = 5) ∨ sTp a k ∨ sFt a k := e
    unfold sSc at s
    unfold sTp sFt at e
    omega
  · have e : (42 ≤ a ∧ a ≤ 48) ∨ (a = 208 ∧ (k = 37 ∨ k = 3)) ∨ a = 227 ∨ (a = 16 ∧ k = 5) ∨ sTp a k ∨ sFt a k := e
    unfold sLw at s
    unfold sTp sFt at e
    omega
  · have e : (42 ≤ a ∧ a ≤ 48) ∨ (a = 208 ∧ (k = 37 ∨ k = 3)) ∨ a = 227 ∨ (a = 16 ∧ k = 5) ∨ sTp a k ∨ sFt a k := e
    unfold sPl at s
    unfold sTp sFt at e
    omega
  · have e : (42 ≤ a ∧ a ≤ 48) ∨ (a = 208 ∧ (k = 37 ∨ k = 3)) ∨ a = 227 ∨ (a = 16 ∧ k = 5) ∨ sTp a k ∨ sFt a k := e
    unfold sWd at s
    unfold sTp sFt at e
    omega
  · have e : (42 ≤ a ∧ a ≤ 48) ∨ (a = 208 ∧ (k = 37 ∨ k = 3)) ∨ a = 227 ∨ (a = 16 ∧ k = 5) ∨ sTp a k ∨ sFt a k := e
    unfold sBk at s
    unfold sTp sFt at e
    omega
  · have e : (42 ≤ a ∧ a ≤ 48) ∨ (a = 208 ∧ (k = 37 ∨ k = 3)) ∨ a = 227 ∨ (a = 16 ∧ k = 5) ∨ sTp a k ∨ sFt a k := e
    unfold sPt at s
    unfold sTp sFt at e
    omega
  · have e : (42 ≤ a ∧ a ≤ 48) ∨ (a = 208 ∧ (k = 37 ∨ k = 3)) ∨ a = 227 ∨ (a = 16 ∧ k = 5) ∨ sTp a k ∨ sFt a k := e
    unfold sHt at s
    unfold sTp sFt at e
    omega
  · have e : (42 ≤ a ∧ a ≤ 48) ∨ (a = 208 ∧ (k = 37 ∨ k = 3)) ∨ a = 227 ∨ (a = 16 ∧ k = 5) ∨ sTp a k ∨ sFt a k := e
    unfold sTh at s
    unfold sTp sFt at e
    omega
  · have e : (42 ≤ a ∧ a ≤ 48) ∨ (a = 208 ∧ (k = 37 ∨ k = 3)) ∨ a = 227 ∨ (a = 16 ∧ k = 5) ∨ sTp a k ∨ sFt a k := e
    unfold sSp at s
    unfold sTp sFt at e
    omega
  · have e : (42 ≤ a ∧ a ≤ 48) ∨ (a = 208 ∧ (k = 37 ∨ k = 3)) ∨ a = 227 ∨ (a = 16 ∧ k = 5) ∨ sTp a k ∨ sFt a k := e
    unfold sSm at s
    unfold sTp sFt at e
    omega
  · have e : (42 ≤ a ∧ a ≤ 48) ∨ (a = 208 ∧ (k = 37 ∨ k = 3)) ∨ a = 227 ∨ (a = 16 ∧ k = 5) ∨ sTp a k ∨ sFt a k := e
    unfold sFi at s
    unfold sTp sFt at e
    omega
  · have e : (42 ≤ a ∧ a ≤ 48) ∨ (a = 208 ∧ (k = 37 ∨ k = 3)) ∨ a = 227 ∨ (a = 16 ∧ k = 5) ∨ sTp a k ∨ sFt a k := e
    unfold sWi at s
    unfold sTp sFt at e
    omega
  · have e : (42 ≤ a ∧ a ≤ 48) ∨ (a = 208 ∧ (k = 37 ∨ k = 3)) ∨ a = 227 ∨ (a = 16 ∧ k = 5) ∨ sTp a k ∨ sFt a k := e
    unfold sCn at s
    unfold sTp sFt at e
    omega
  · have e : (42 ≤ a ∧ a ≤ 48) ∨ (a = 208 ∧ (k = 37 ∨ k = 3)) ∨ a = 227 ∨ (a = 16 ∧ k = 5) ∨ sTp a k ∨ sFt a k := e
    unfold sIm at s
    unfold sTp sFt at e
    omega
theorem Inv_T9 (hI : Inv v) (h : ∀ a k, sIn a k → ¬ (sTp a k ∨ sFt a k) → v' a k = v a k) (nTp : iTp v') (nFt : iFt v') : Inv v' := by
  refine Inv_mk hI (E := fun a k => sTp a k ∨ sFt a k) h (.inl fun a k s e => ?_) (.inl fun a k s e => ?_) (.inl fun a k s e => ?_) (.inl fun a k s e => ?_) (.inl fun a k s e => ?_) (.inl fun a k s e => ?_) (.inl fun a k s e => ?_) (.inl fun a k s e => ?_) (.inl fun a k s e => ?_) (.inl fun a k s e => ?_) (.inl fun a k s e => ?_) (.inl fun a k s e => ?_) (.inl fun a k s e => ?_) (.inl fun a k s e => ?_) (.inr nTp) (.inr nFt) (.inl fun a k s e => ?_) (.inl fun a k s e => ?_)
  · have e : sTp a k ∨ sFt a k := e
    unfold sSc at s
    unfold sTp sFt at e
    omega
  · have e : sTp a k ∨ sFt a k := e
    unfold sLw at s
    unfold sTp sFt at e
    omega
  · have e : sTp a k ∨ sFt a k := e
    unfold sPl at s
    unfold sTp sFt at e
    omega
  · have e : sTp a k ∨ sFt a k := e
    unfold sTb at s
    unfold sTp sFt at e
    omega
  · have e : sTp a k ∨ sFt a k := e
    unfold sWd at s
    unfold sTp sFt at e
    omega
  · have e : sTp a k ∨ sFt a k := e
    unfold sBk at s
    unfold sTp sFt at e
    omega
  · have e : sTp a k ∨ sFt a k := e
    unfold sPt at s
    unfold sTp sFt at e
    omega
  · have e : sTp a k ∨ sFt a k := e
    unfold sHt at s
    unfold sTp sFt at e
    omega
  · have e : sTp a k ∨ sFt a k := e
    unfold sTh at s
    unfold sTp sFt at e
    omega
  · have e : sTp a k ∨ sFt a k := e
    unfold sSp at s
    unfold sTp sFt at e
    omega
  · have e : sTp a k ∨ sFt a k := e
    unfold sSm at s
    unfold sTp sFt at e
    omega
  · have e : sTp a k ∨ sFt a k := e
    unfold sFi at s
    unfold sTp sFt at e
    omega
  · have e : sTp a k ∨ sFt a k := e
    unfold sWi at s
    unfold sTp sFt at e
    omega
  · have e : sTp a k ∨ sFt a k := e
    unfold sKR at s
    unfold sTp sFt at e
    omega
  · have e : sTp a k ∨ sFt a k := e
    unfold sCn at s
    unfold sTp sFt at e
    omega
  · have e : sTp a k ∨ sFt a k := e
    unfold sIm at s
    unfold sTp sFt at e
    omega
theorem Inv_I1 (hI : Inv v) (h : ∀ a k, sIn a k → ¬ (sIm a k) → v' a k = v a k) (nIm : iIm v') : Inv v' := by
  refine Inv_mk hI (E := fun a k => sIm a k) h (.inl fun a k s e => ?_) (.inl fun a k s e => ?_) (.inl fun a k s e => ?_) (.inl fun a k s e => ?_) (.inl fun a k s e => ?_) (.inl fun a k s e => ?_) (.inl fun a k s e => ?_) (.inl fun a k s e => ?_) (.inl fun a k s e => ?_) (.inl fun a k s e => ?_) (.inl fun a k s e => ?_) (.inl fun a k s e => ?_) (.inl fun a k s e => ?_) (.inl fun a k s e => ?_) (.inl fun a k s e => ?_) (.inl fun a k s e => ?_) (.inl fun a k s e => ?_) (.inr nIm)
  · have e : sIm a k := e
    unfold sSc at s
    unfold sIm at e
    omega
  · have e : sIm a k := e
    unfold sLw at s
    unfold sIm at e
    omega
  · have e : sIm a k := e
    unfold sPl at s
    unfold sIm at e
    omega
  · have e : sIm a k := e
    unfold sTb at s
    unfold sIm at e
    omega
  · have e : sIm a k := e
    unfold sWd at s
    unfold sIm at e
    omega
  · have e : sIm a k := e
    unfold sBk at s
    unfold sIm at e
    omega
  · have e : sIm a k := e
    unfold sPt at s
    unfold sIm at e
    omega
  · have e : sIm a k := e
    unfold sHt at s
    unfold sIm at e
    omega
  · have e : sIm a k := e
    unfold sTh at s
    unfold sIm at e
    omega
  · have e : sIm a k := e
    unfold sSp at s
    unfold sIm at e
    omega
  · have e : sIm a k := e
    unfold sSm at s
    unfold sIm at e
    omega
  · have e : sIm a k := e
    unfold sFi at s
    unfold sIm at e
    omega
  · have e : sIm a k := e
    unfold sWi at s
    unfold sIm at e
    omega
  · have e : sIm a k := e
    unfold sKR at s
    unfold sIm at e
    omega
  · have e : sIm a k := e
    unfold sTp at s
    unfold sIm at e
    omega
  · have e : sIm a k := e
    unfold sFt at s
    unfold sIm at e
    omega
  · have e : sIm a k := e
    unfold sCn at s
    unfold sIm at e
    omega
end IX
