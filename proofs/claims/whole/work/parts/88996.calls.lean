/-! ===== calls that change nothing that counts ===== -/
set_option maxHeartbeats 1000000
theorem mx_c {f g : Nat → Int} : ∀ (m k : Nat) (x : Int), (∀ i, k ≤ i → i < k + m → g i = f i) → mx g m k x = mx f m k x
  | 0, _, _, _ => rfl
  | m + 1, k, x, h => by
    show mx g m (k + 1) (max x (g k)) = mx f m (k + 1) (max x (f k))
    rw [h k (by omega) (by omega), mx_c m (k + 1) _ (fun i i1 i2 => h i (by omega) (by omega))]
theorem rain_c {f g : Nat → Int} {n i : Nat} (hi : i < n) (h : ∀ i, i < n → g i = f i) : rain g n i = rain f n i := by
  unfold rain
  rw [mx_c (i + 1) 0 _ (fun j j1 j2 => h j (by omega)), mx_c (n - i) i _ (fun j j1 j2 => h j (by omega)), h i hi]
theorem cnt_c {p q : Nat → Prop} [DecidablePred p] [DecidablePred q] : ∀ n, (∀ k, k < n → (p k ↔ q k)) → cnt p n = cnt q n
  | 0, _ => rfl
  | n + 1, h => by
    show cnt p n + (if p n then 1 else 0) = cnt q n + (if q n then 1 else 0)
    rw [cnt_c n (fun k hk => h k (by omega))]
    by_cases c : q n
    · rw [if_pos c, if_pos ((h n (by omega)).mpr c)]
    · rw [if_neg c, if_neg (fun t => c ((h n (by omega)).mp t))]
theorem cnt2_c {f g : Nat → Int} {n : Nat} (h : ∀ i, i < n → g i = f i) : ∀ a, cnt2 g n a = cnt2 f n a
  | 0 => rfl
  | a + 1 => by
    show cnt2 g n a + _ = cnt2 f n a + _
    rw [cnt2_c h a]
    congr 1
    refine cnt_c _ (fun j hj => ?_)
    rw [mx_c j (a + 1) _ (fun i i1 i2 => h i (by omega)), h a (by omega), h (a + 1 + j) (by omega)]
theorem hlwR_c {f g : Nat → Int} {n : Nat} (h : ∀ i, i < n → g i = f i) (what : Int) : hlwR g n what = hlwR f n what := by
  unfold hlwR
  rw [sumW_c n (fun k hk => rain_c hk h), cnt2_c h n]
  rw [cnt_c (p := fun k => 0 < rain g n k ∧ (k = 0 ∨ ¬ 0 < rain g n (k - 1))) (q := fun k => 0 < rain f n k ∧ (k = 0 ∨ ¬ 0 < rain f n (k - 1))) n (fun k hk => by rw [rain_c hk h, rain_c (i := k - 1) (by omega) h])]
  rw [cnt_c (p := fun k => mx g k 0 (-1) < g k) (q := fun k => mx f k 0 (-1) < f k) n (fun k hk => by rw [mx_c k 0 _ (fun i i1 i2 => h i (by omega)), h k hk])]
  rw [cnt_c (p := fun k => mx g (n - (k + 1)) (k + 1) (-1) < g k) (q := fun k => mx f (n - (k + 1)) (k + 1) (-1) < f k) n (fun k hk => by rw [mx_c (n - (k + 1)) (k + 1) _ (fun i i1 i2 => h i (by omega)), h k hk])]
theorem xorW_c {f g : Nat → Int} : ∀ n, (∀ k, k < n → g k = f k) → xorW g n = xorW f n
  | 0, _ => rfl
  | n + 1, h => by
    show b32 (· ^^^ ·) (xorW g n) (g n) = b32 (· ^^^ ·) (xorW f n) (f n)
    rw [xorW_c n (fun k hk => h k (by omega)), h n (by omega)]
theorem hasN_c {f g : Nat → Int} {x : Int} : ∀ (m k : Nat), (∀ i, k ≤ i → i < k + m → g i = f i) → hasN g x m k = hasN f x m k
  | 0, _, _ => rfl
  | m + 1, k, h => by
    show (if g k = x then true else hasN g x m (k + 1)) = (if f k = x then true else hasN f x m (k + 1))
    rw [h k (by omega) (by omega), hasN_c m (k + 1) (fun i i1 i2 => h i (by omega) (by omega))]
theorem spadesR_c {f g : Nat → Int} {n : Nat} (h : ∀ i, i < n → g i = f i) (what : Int) : spadesR g n what = spadesR f n what := by
  unfold spadesR
  rw [xorW_c n h, hasN_c n 0 (fun i _ i2 => h i (by omega))]
theorem shareR_c {f g : Nat → Int} (h : ∀ i, i < 8 → g i = f i) (i what : Int) : shareR g i what = shareR f i what := by
  have e : six g i = six f i := by
    unfold six
    rw [h 1 (by decide), h 2 (by decide), h 3 (by decide), h 4 (by decide), h 5 (by decide), h 6 (by decide), h 7 (by decide)]
  unfold shareR
  rw [e]
theorem shv17 {v : xV} : shv 17 v = v := rfl
def sB (a k : Nat) : Prop := (a ≠ 33 ∧ a ≠ 34 ∧ (a < 124 ∨ 131 < a) ∧ (a < 134 ∨ 153 < a) ∧ (a ≠ 0 ∧ a ≠ 86 ∧ a ≠ 87) ∧ (a < 228 ∨ 233 < a) ∧ a ≠ 211 ∧ (a < 223 ∨ a = 224 ∨ 226 < a)) ∧ (a ≠ 208 ∨ (k = 3 ∨ k = 5 ∨ k = 6 ∨ k = 10 ∨ k = 30 ∨ k = 31 ∨ k = 32 ∨ k = 34 ∨ k = 37 ∨ k = 46 ∨ k = 54 ∨ k = 56 ∨ k = 59 ∨ k = 61 ∨ k = 66)) ∧ (a ≠ 123 ∨ k = 0) ∧ (a ≠ 209 ∨ k < 247) ∧ (a ≠ 212 ∨ k < 10) ∧ (a ≠ 224 ∨ k < 64) ∧ (a ≠ 227 ∨ k < 48) ∧ (a ≠ 216 ∨ k = 0) ∧ (a < 217 ∨ 220 < a ∨ k < 16) ∧ ((a ≠ 221 ∧ a ≠ 222) ∨ k < 400) ∧ (a ≠ 17 ∨ k = 5) ∧ (a ≠ 16 ∨ k = 2 ∨ k = 5 ∨ k = 6 ∨ k = 8 ∨ k = 11 ∨ k = 12)
theorem bSc {a k : Nat} (s : sSc a k) : sB a k := by
  unfold sSc at s
  rcases s with h | ⟨rfl, rfl⟩ | ⟨rfl, h⟩ | ⟨rfl, h⟩
  · refine ⟨⟨?_, ?_, ?_, ?_, ?_, ?_, ?_, ?_⟩, ?_, ?_, ?_, ?_, ?_, ?_, ?_, ?_, ?_, ?_, ?_⟩ <;> omega
  · refine ⟨⟨?_, ?_, ?_, ?_, ?_, ?_, ?_, ?_⟩, ?_, ?_, ?_, ?_, ?_, ?_, ?_, ?_, ?_, ?_, ?_⟩ <;> decide
  · refine ⟨⟨?_, ?_, ?_, ?_, ?_, ?_, ?_, ?_⟩, ?_, ?_, ?_, ?_, ?_, ?_, ?_, ?_, ?_, ?_, ?_⟩ <;> omega
  · refine ⟨⟨?_, ?_, ?_, ?_, ?_, ?_, ?_, ?_⟩, ?_, ?_, ?_, ?_, ?_, ?_, ?_, ?_, ?_, ?_, ?_⟩ <;> omega
theorem bLw {a k : Nat} (s : sLw a k) : sB a k := by
  unfold sLw at s
  rcases s with h | ⟨rfl, h⟩ | ⟨h, h'⟩ | ⟨rfl | rfl, h⟩
  · refine ⟨⟨?_, ?_, ?_, ?_, ?_, ?_, ?_, ?_⟩, ?_, ?_, ?_, ?_, ?_, ?_, ?_, ?_, ?_, ?_, ?_⟩ <;> omega
  · refine ⟨⟨?_, ?_, ?_, ?_, ?_, ?_, ?_, ?_⟩, ?_, ?_, ?_, ?_, ?_, ?_, ?_, ?_, ?_, ?_, ?_⟩ <;> omega
  · refine ⟨⟨?_, ?_, ?_, ?_, ?_, ?_, ?_, ?_⟩, ?_, ?_, ?_, ?_, ?_, ?_, ?_, ?_, ?_, ?_, ?_⟩ <;> omega
  · refine ⟨⟨?_, ?_, ?_, ?_, ?_, ?_, ?_, ?_⟩, ?_, ?_, ?_, ?_, ?_, ?_, ?_, ?_, ?_, ?_, ?_⟩ <;> omega
  · refine ⟨⟨?_, ?_, ?_, ?_, ?_, ?_, ?_, ?_⟩, ?_, ?_, ?_, ?_, ?_, ?_, ?_, ?_, ?_, ?_, ?_⟩ <;> omega
theorem bPl {a k : Nat} (s : sPl a k) : sB a k := by
  unfold sPl at s
  rcases s with h | ⟨rfl, rfl | rfl⟩ | ⟨rfl, h⟩
  · refine ⟨⟨?_, ?_, ?_, ?_, ?_, ?_, ?_, ?_⟩, ?_, ?_, ?_, ?_, ?_, ?_, ?_, ?_, ?_, ?_, ?_⟩ <;> omega
  · refine ⟨⟨?_, ?_, ?_, ?_, ?_, ?_, ?_, ?_⟩, ?_, ?_, ?_, ?_, ?_, ?_, ?_, ?_, ?_, ?_, ?_⟩ <;> decide
  · refine ⟨⟨?_, ?_, ?_, ?_, ?_, ?_, ?_, ?_⟩, ?_, ?_, ?_, ?_, ?_, ?_, ?_, ?_, ?_, ?_, ?_⟩ <;> decide
  · refine ⟨⟨?_, ?_, ?_, ?_, ?_, ?_, ?_, ?_⟩, ?_, ?_, ?_, ?_, ?_, ?_, ?_, ?_, ?_, ?_, ?_⟩ <;> omega
theorem bTb {a k : Nat} (s : sTb a k) : sB a k := by
  unfold sTb at s
  rcases s with h | ⟨rfl, rfl⟩ | ⟨rfl, h⟩
  · refine ⟨⟨?_, ?_, ?_, ?_, ?_, ?_, ?_, ?_⟩, ?_, ?_, ?_, ?_, ?_, ?_, ?_, ?_, ?_, ?_, ?_⟩ <;> omega
  · refine ⟨⟨?_, ?_, ?_, ?_, ?_, ?_, ?_, ?_⟩, ?_, ?_, ?_, ?_, ?_, ?_, ?_, ?_, ?_, ?_, ?_⟩ <;> decide
  · refine ⟨⟨?_, ?_, ?_, ?_, ?_, ?_, ?_, ?_⟩, ?_, ?_, ?_, ?_, ?_, ?_, ?_, ?_, ?_, ?_, ?_⟩ <;> omega
theorem bWd {a k : Nat} (s : sWd a k) : sB a k := by
  unfold sWd at s
  rcases s with ⟨rfl, h⟩ | ⟨rfl, rfl⟩
  · refine ⟨⟨?_, ?_, ?_, ?_, ?_, ?_, ?_, ?_⟩, ?_, ?_, ?_, ?_, ?_, ?_, ?_, ?_, ?_, ?_, ?_⟩ <;> omega
  · refine ⟨⟨?_, ?_, ?_, ?_, ?_, ?_, ?_, ?_⟩, ?_, ?_, ?_, ?_, ?_, ?_, ?_, ?_, ?_, ?_, ?_⟩ <;> decide
theorem bBk {a k : Nat} (s : sBk a k) : sB a k := by
  unfold sBk at s
  rcases s with rfl | rfl
  · refine ⟨⟨?_, ?_, ?_, ?_, ?_, ?_, ?_, ?_⟩, ?_, ?_, ?_, ?_, ?_, ?_, ?_, ?_, ?_, ?_, ?_⟩ <;> omega
  · refine ⟨⟨?_, ?_, ?_, ?_, ?_, ?_, ?_, ?_⟩, ?_, ?_, ?_, ?_, ?_, ?_, ?_, ?_, ?_, ?_, ?_⟩ <;> omega
theorem bPt {a k : Nat} (s : sPt a k) : sB a k := by
  unfold sPt at s
  rcases s with ⟨rfl, h⟩ | rfl | ⟨rfl, rfl⟩ | ⟨rfl, h⟩
  · refine ⟨⟨?_, ?_, ?_, ?_, ?_, ?_, ?_, ?_⟩, ?_, ?_, ?_, ?_, ?_, ?_, ?_, ?_, ?_, ?_, ?_⟩ <;> omega
  · refine ⟨⟨?_, ?_, ?_, ?_, ?_, ?_, ?_, ?_⟩, ?_, ?_, ?_, ?_, ?_, ?_, ?_, ?_, ?_, ?_, ?_⟩ <;> omega
  · refine ⟨⟨?_, ?_, ?_, ?_, ?_, ?_, ?_, ?_⟩, ?_, ?_, ?_, ?_, ?_, ?_, ?_, ?_, ?_, ?_, ?_⟩ <;> decide
  · refine ⟨⟨?_, ?_, ?_, ?_, ?_, ?_, ?_, ?_⟩, ?_, ?_, ?_, ?_, ?_, ?_, ?_, ?_, ?_, ?_, ?_⟩ <;> omega
theorem bHt {a k : Nat} (s : sHt a k) : sB a k := by
  unfold sHt at s
  rcases s with ⟨rfl, h⟩ | rfl | ⟨rfl, rfl⟩ | ⟨rfl, h⟩
  · refine ⟨⟨?_, ?_, ?_, ?_, ?_, ?_, ?_, ?_⟩, ?_, ?_, ?_, ?_, ?_, ?_, ?_, ?_, ?_, ?_, ?_⟩ <;> omega
  · refine ⟨⟨?_, ?_, ?_, ?_, ?_, ?_, ?_, ?_⟩, ?_, ?_, ?_, ?_, ?_, ?_, ?_, ?_, ?_, ?_, ?_⟩ <;> omega
  · refine ⟨⟨?_, ?_, ?_, ?_, ?_, ?_, ?_, ?_⟩, ?_, ?_, ?_, ?_, ?_, ?_, ?_, ?_, ?_, ?_, ?_⟩ <;> decide
  · refine ⟨⟨?_, ?_, ?_, ?_, ?_, ?_, ?_, ?_⟩, ?_, ?_, ?_, ?_, ?_, ?_, ?_, ?_, ?_, ?_, ?_⟩ <;> omega
theorem bTh {a k : Nat} (s : sTh a k) : sB a k := by
  unfold sTh at s
  rcases s with ⟨rfl, h⟩ | rfl | ⟨rfl, rfl⟩ | ⟨rfl, h⟩
  · refine ⟨⟨?_, ?_, ?_, ?_, ?_, ?_, ?_, ?_⟩, ?_, ?_, ?_, ?_, ?_, ?_, ?_, ?_, ?_, ?_, ?_⟩ <;> omega
  · refine ⟨⟨?_, ?_, ?_, ?_, ?_, ?_, ?_, ?_⟩, ?_, ?_, ?_, ?_, ?_, ?_, ?_, ?_, ?_, ?_, ?_⟩ <;> omega
  · refine ⟨⟨?_, ?_, ?_, ?_, ?_, ?_, ?_, ?_⟩, ?_, ?_, ?_, ?_, ?_, ?_, ?_, ?_, ?_, ?_, ?_⟩ <;> decide
  · refine ⟨⟨?_, ?_, ?_, ?_, ?_, ?_, ?_, ?_⟩, ?_, ?_, ?_, ?_, ?_, ?_, ?_, ?_, ?_, ?_, ?_⟩ <;> omega
theorem bSp {a k : Nat} (s : sSp a k) : sB a k := by
  unfold sSp at s
  rcases s with ⟨rfl, h⟩ | rfl | ⟨rfl, rfl⟩ | ⟨rfl, h⟩
  · refine ⟨⟨?_, ?_, ?_, ?_, ?_, ?_, ?_, ?_⟩, ?_, ?_, ?_, ?_, ?_, ?_, ?_, ?_, ?_, ?_, ?_⟩ <;> omega
  · refine ⟨⟨?_, ?_, ?_, ?_, ?_, ?_, ?_, ?_⟩, ?_, ?_, ?_, ?_, ?_, ?_, ?_, ?_, ?_, ?_, ?_⟩ <;> omega
  · refine ⟨⟨?_, ?_, ?_, ?_, ?_, ?_, ?_, ?_⟩, ?_, ?_, ?_, ?_, ?_, ?_, ?_, ?_, ?_, ?_, ?_⟩ <;> decide
  · refine ⟨⟨?_, ?_, ?_, ?_, ?_, ?_, ?_, ?_⟩, ?_, ?_, ?_, ?_, ?_, ?_, ?_, ?_, ?_, ?_, ?_⟩ <;> omega
theorem bSm {a k : Nat} (s : sSm a k) : sB a k := by
  unfold sSm at s
  rcases s with ⟨rfl, h⟩ | ⟨rfl, rfl⟩ | ⟨rfl, h⟩
  · refine ⟨⟨?_, ?_, ?_, ?_, ?_, ?_, ?_, ?_⟩, ?_, ?_, ?_, ?_, ?_, ?_, ?_, ?_, ?_, ?_, ?_⟩ <;> omega
  · refine ⟨⟨?_, ?_, ?_, ?_, ?_, ?_, ?_, ?_⟩, ?_, ?_, ?_, ?_, ?_, ?_, ?_, ?_, ?_, ?_, ?_⟩ <;> decide
  · refine ⟨⟨?_, ?_, ?_, ?_, ?_, ?_, ?_, ?_⟩, ?_, ?_, ?_, ?_, ?_, ?_, ?_, ?_, ?_, ?_, ?_⟩ <;> omega
theorem bFi {a k : Nat} (s : sFi a k) : sB a k := by
  unfold sFi at s
  rcases s with rfl | ⟨rfl, h⟩
  · refine ⟨⟨?_, ?_, ?_, ?_, ?_, ?_, ?_, ?_⟩, ?_, ?_, ?_, ?_, ?_, ?_, ?_, ?_, ?_, ?_, ?_⟩ <;> omega
  · refine ⟨⟨?_, ?_, ?_, ?_, ?_, ?_, ?_, ?_⟩, ?_, ?_, ?_, ?_, ?_, ?_, ?_, ?_, ?_, ?_, ?_⟩ <;> omega
theorem bWi {a k : Nat} (s : sWi a k) : sB a k := by
  unfold sWi at s
  rcases s with h | ⟨rfl, h⟩
  · refine ⟨⟨?_, ?_, ?_, ?_, ?_, ?_, ?_, ?_⟩, ?_, ?_, ?_, ?_, ?_, ?_, ?_, ?_, ?_, ?_, ?_⟩ <;> omega
  · refine ⟨⟨?_, ?_, ?_, ?_, ?_, ?_, ?_, ?_⟩, ?_, ?_, ?_, ?_, ?_, ?_, ?_, ?_, ?_, ?_, ?_⟩ <;> omega
theorem bKR {a k : Nat} (s : sKR a k) : sB a k := by
  unfold sKR at s
  rcases s with ⟨rfl, h⟩ | h | ⟨rfl, rfl | rfl⟩ | ⟨rfl, h⟩ | rfl
  · refine ⟨⟨?_, ?_, ?_, ?_, ?_, ?_, ?_, ?_⟩, ?_, ?_, ?_, ?_, ?_, ?_, ?_, ?_, ?_, ?_, ?_⟩ <;> omega
  · refine ⟨⟨?_, ?_, ?_, ?_, ?_, ?_, ?_, ?_⟩, ?_, ?_, ?_, ?_, ?_, ?_, ?_, ?_, ?_, ?_, ?_⟩ <;> omega
  · refine ⟨⟨?_, ?_, ?_, ?_, ?_, ?_, ?_, ?_⟩, ?_, ?_, ?_, ?_, ?_, ?_, ?_, ?_, ?_, ?_, ?_⟩ <;> decide
  · refine ⟨⟨?_, ?_, ?_, ?_, ?_, ?_, ?_, ?_⟩, ?_, ?_, ?_, ?_, ?_, ?_, ?_, ?_, ?_, ?_, ?_⟩ <;> decide
  · refine ⟨⟨?_, ?_, ?_, ?_, ?_, ?_, ?_, ?_⟩, ?_, ?_, ?_, ?_, ?_, ?_, ?_, ?_, ?_, ?_, ?_⟩ <;> omega
  · refine ⟨⟨?_, ?_, ?_, ?_, ?_, ?_, ?_, ?_⟩, ?_, ?_, ?_, ?_, ?_, ?_, ?_, ?_, ?_, ?_, ?_⟩ <;> omega
theorem bTp {a k : Nat} (s : sTp a k) : sB a k := by
  unfold sTp at s
  rcases s with ⟨rfl, h⟩ | ⟨rfl, rfl⟩ | rfl | rfl
  · refine ⟨⟨?_, ?_, ?_, ?_, ?_, ?_, ?_, ?_⟩, ?_, ?_, ?_, ?_, ?_, ?_, ?_, ?_, ?_, ?_, ?_⟩ <;> omega
  · refine ⟨⟨?_, ?_, ?_, ?_, ?_, ?_, ?_, ?_⟩, ?_, ?_, ?_, ?_, ?_, ?_, ?_, ?_, ?_, ?_, ?_⟩ <;> decide
  · refine ⟨⟨?_, ?_, ?_, ?_, ?_, ?_, ?_, ?_⟩, ?_, ?_, ?_, ?_, ?_, ?_, ?_, ?_, ?_, ?_, ?_⟩ <;> omega
  · refine ⟨⟨?_, ?_, ?_, ?_, ?_, ?_, ?_, ?_⟩, ?_, ?_, ?_, ?_, ?_, ?_, ?_, ?_, ?_, ?_, ?_⟩ <;> omega
theorem bFt {a k : Nat} (s : sFt a k) : sB a k := by
  unfold sFt at s
  rcases s with ⟨rfl, h⟩ | ⟨rfl, rfl | rfl⟩
  · refine ⟨⟨?_, ?_, ?_, ?_, ?_, ?_, ?_, ?_⟩, ?_, ?_, ?_, ?_, ?_, ?_, ?_, ?_, ?_, ?_, ?_⟩ <;> omega
  · refine ⟨⟨?_, ?_, ?_, ?_, ?_, ?_, ?_, ?_⟩, ?_, ?_, ?_, ?_, ?_, ?_, ?_, ?_, ?_, ?_, ?_⟩ <;> decide
  · refine ⟨⟨?_, ?_, ?_, ?_, ?_, ?_, ?_, ?_⟩, ?_, ?_, ?_, ?_, ?_, ?_, ?_, ?_, ?_, ?_, ?_⟩ <;> decide
theorem bCn {a k : Nat} (s : sCn a k) : sB a k := by
  unfold sCn at s
  rcases s with ⟨rfl, rfl⟩ | h | rfl | ⟨rfl, h⟩ | ⟨rfl | rfl | rfl | rfl, h⟩ | rfl
  · refine ⟨⟨?_, ?_, ?_, ?_, ?_, ?_, ?_, ?_⟩, ?_, ?_, ?_, ?_, ?_, ?_, ?_, ?_, ?_, ?_, ?_⟩ <;> decide
  · refine ⟨⟨?_, ?_, ?_, ?_, ?_, ?_, ?_, ?_⟩, ?_, ?_, ?_, ?_, ?_, ?_, ?_, ?_, ?_, ?_, ?_⟩ <;> omega
  · refine ⟨⟨?_, ?_, ?_, ?_, ?_, ?_, ?_, ?_⟩, ?_, ?_, ?_, ?_, ?_, ?_, ?_, ?_, ?_, ?_, ?_⟩ <;> omega
  · refine ⟨⟨?_, ?_, ?_, ?_, ?_, ?_, ?_, ?_⟩, ?_, ?_, ?_, ?_, ?_, ?_, ?_, ?_, ?_, ?_, ?_⟩ <;> omega
  · refine ⟨⟨?_, ?_, ?_, ?_, ?_, ?_, ?_, ?_⟩, ?_, ?_, ?_, ?_, ?_, ?_, ?_, ?_, ?_, ?_, ?_⟩ <;> omega
  · refine ⟨⟨?_, ?_, ?_, ?_, ?_, ?_, ?_, ?_⟩, ?_, ?_, ?_, ?_, ?_, ?_, ?_, ?_, ?_, ?_, ?_⟩ <;> omega
  · refine ⟨⟨?_, ?_, ?_, ?_, ?_, ?_, ?_, ?_⟩, ?_, ?_, ?_, ?_, ?_, ?_, ?_, ?_, ?_, ?_, ?_⟩ <;> omega
  · refine ⟨⟨?_, ?_, ?_, ?_, ?_, ?_, ?_, ?_⟩, ?_, ?_, ?_, ?_, ?_, ?_, ?_, ?_, ?_, ?_, ?_⟩ <;> omega
  · refine ⟨⟨?_, ?_, ?_, ?_, ?_, ?_, ?_, ?_⟩, ?_, ?_, ?_, ?_, ?_, ?_, ?_, ?_, ?_, ?_, ?_⟩ <;> omega
theorem bIm {a k : Nat} (s : sIm a k) : sB a k := by
  unfold sIm at s
  rcases s with ⟨rfl, h⟩ | ⟨rfl, rfl⟩ | h | rfl
  · refine ⟨⟨?_, ?_, ?_, ?_, ?_, ?_, ?_, ?_⟩, ?_, ?_, ?_, ?_, ?_, ?_, ?_, ?_, ?_, ?_, ?_⟩ <;> omega
  · refine ⟨⟨?_, ?_, ?_, ?_, ?_, ?_, ?_, ?_⟩, ?_, ?_, ?_, ?_, ?_, ?_, ?_, ?_, ?_, ?_, ?_⟩ <;> decide
  · refine ⟨⟨?_, ?_, ?_, ?_, ?_, ?_, ?_, ?_⟩, ?_, ?_, ?_, ?_, ?_, ?_, ?_, ?_, ?_, ?_, ?_⟩ <;> omega
  · refine ⟨⟨?_, ?_, ?_, ?_, ?_, ?_, ?_, ?_⟩, ?_, ?_, ?_, ?_, ?_, ?_, ?_, ?_, ?_, ?_, ?_⟩ <;> omega
theorem sIn_b {a k : Nat} (s : sIn a k) : sB a k := by
  unfold sIn at s
  rcases s with s | s | s | s | s | s | s | s | s | s | s | s | s | s | s | s | s | s
  · exact bSc s
  · exact bLw s
  · exact bPl s
  · exact bTb s
  · exact bWd s
  · exact bBk s
  · exact bPt s
  · exact bHt s
  · exact bTh s
  · exact bSp s
  · exact bSm s
  · exact bFi s
  · exact bWi s
  · exact bKR s
  · exact bTp s
  · exact bFt s
  · exact bCn s
  · exact bIm s
section CL
variable {z : xZ} {v y : xV}
theorem cor_f (c : cor v y) {a : Nat} (h : core a 0 = true) (h8 : a ≠ 208) : y a = v a := funext fun k => c a k (by
  have e : (a != 208) = true := by simp [h8]
  unfold core at h ⊢
  rw [e] at h ⊢
  rw [Bool.true_or] at h ⊢
  exact h)
theorem call_cc {jc jm : Nat} {as : List xv} {r : Int} (hI : Inv v) (hc : ∀ Q : xZ → xV → xv → Prop, (∀ z' v', rom z z' → cor v v' → Q z' v' (.inl r)) → EvM TB 100 jc z v (.inr (.inl 16) :: as) Q) (hm : ∀ (z' : xZ) (y : xV) (Q : xZ → xV → xv → Prop), Lay z' → cor v y → (∀ v', cor y v' → Q z' v' (.inl r)) → EvM TB 100 jm z' y (.inr (.inl 208) :: as) Q) : CallOk jc jm as z v := by
  unfold CallOk
  refine hc _ (fun z1 y hr c => ⟨⟨_, rfl⟩, hr, cor_10 c, ?_⟩)
  exact hm _ _ _ hr.1 c (fun y' c' => ⟨rfl, rfl, Inv_cor (Inv_cor hI c) c', (cor_10 c').trans (cor_10 c)⟩)
theorem c_song (hz : Lay z) (hI : Inv v) {a b : Int} : CallOk 156 301 [.inl a, .inl b] z v := call_cc hI (r := songR a b) (fun Q q => Eq.mpr e_song (q _ _ (rom_rf hz) (cor_rf v))) (fun z' y Q h c q => Eq.mpr (m_song h) (q _ cor_told))
theorem c_halves (hz : Lay z) (hI : Inv v) {a b : Int} : CallOk 154 299 [.inl a, .inl b] z v := call_cc hI (r := halvesR a b) (fun Q q => Eq.mpr e_halves (q _ _ (rom_rf hz) (cor_rf v))) (fun z' y Q h c q => Eq.mpr (m_halves h) (q _ cor_told))
theorem c_round (hz : Lay z) (hI : Inv v) {a b c : Int} : CallOk 149 298 [.inl a, .inl b, .inl c] z v := call_cc hI (r := roundR a b c) (fun Q q => Eq.mpr e_round (q _ _ (rom_rf hz) (cor_rf v))) (fun z' y Q h c q => Eq.mpr (m_round h) (q _ cor_told))
theorem c_rounds (hz : Lay z) (hI : Inv v) {a b c e : Int} : CallOk 152 296 [.inl a, .inl b, .inl c, .inl e] z v := call_cc hI (r := roundsR a b c e) (fun Q q => Eq.mpr e_rounds (q _ _ (rom_rf hz) (cor_rf v))) (fun z' y Q h c q => Eq.mpr (m_rounds h) (q _ cor_told))
theorem c_season (hz : Lay z) (hI : Inv v) {a b c e : Int} (h1 : rg a) (h2 : rg b) : CallOk 132 285 [.inl a, .inl b, .inl c, .inl e] z v := call_cc hI (r := seaR a b c e) (fun Q q => Eq.mpr (e_season h1 h2) (q _ _ (rom_rf hz) (cor_rf v))) (fun z' y Q h c q => Eq.mpr (m_season h) (q _ cor_told))
theorem c_eggs (hz : Lay z) (hI : Inv v) {a b c : Int} : CallOk 130 282 [.inl a, .inl b, .inl c] z v := call_cc hI (r := eggsR a b c) (fun Q q => e_eggs hz q) (fun z' y Q h c q => m_eggs h q)
theorem c_game (hz : Lay z) (hI : Inv v) {a : Int} (h1 : rg a) : CallOk 162 304 [.inl a] z v := call_cc hI (r := gameR a) (fun Q q => e_game hz h1 q) (fun z' y Q h c q => m_game h h1 q)
theorem c_pounds (hz : Lay z) (hI : Inv v) {a : Int} : CallOk 148 295 [.inl a] z v := by
  obtain ⟨n, a1, a2, a3, a4⟩ := hI.sm
  refine call_cc hI (r := poundsR (sumW (v 245) n) a) (fun Q q => Eq.mpr (e_pounds hz) ?_) (fun z' y Q h c q => Eq.mpr (m_pounds (n := n) h ?_ a1) ?_)
  · have e : v 49 7 = sumW (v 245) n := a4
    rw [e]
    exact q _ _ (rom_rf hz) (cor_rf v)
  · exact (c 208 59 (by decide)).trans a3
  · rw [cor_f c (a := 245) (by decide) (by decide)]
    exact q _ cor_told
theorem c_spades (hz : Lay z) (hI : Inv v) {a : Int} : CallOk 159 303 [.inl a] z v := by
  obtain ⟨n, a1, a2, a3, a4⟩ := hI.sp
  refine call_cc hI (r := spadesR (v 246) n a) (fun Q q => Eq.mpr (e_spades (n := n) hz a2 a1) ?_) (fun z' y Q h c q => Eq.mpr (m_spades (n := n) h ?_ a1) ?_)
  · rw [spadesR_c (f := v 246) (g := v 58) (fun i hi => (a4 i hi).1)]
    exact q _ _ (rom_rf hz) (cor_rf v)
  · exact (c 208 61 (by decide)).trans a3
  · rw [cor_f c (a := 246) (by decide) (by decide)]
    exact q _ cor_told
theorem c_share (hz : Lay z) (hI : Inv v) {a b : Int} : CallOk 108 269 [.inl a, .inl b] z v := by
  obtain ⟨a1, a2⟩ := hI.fi
  have e : ∀ k, k < 8 → v 50 k = v 234 k := fun k hk => (a1 k hk).1
  refine call_cc hI (r := shareR (v 234) a b) (fun Q q => Eq.mpr (e_share hz (fun k hk => by rw [e k hk]; exact (a1 k hk).2)) ?_) (fun z' y Q h c q => ?_)
  · rw [shareR_c (f := v 234) (g := v 50) e]
    exact q _ _ (rom_rf hz) (cor_rf v)
  · have e2 := cor_f c (a := 234) (by decide) (by decide)
    refine Eq.mpr (m_share h (fun k hk => by rw [e2]; exact (a1 k hk).2) (by rw [e2]; exact a2)) ?_
    rw [e2]
    exact q _ cor_told
theorem c_hollow (hz : Lay z) (hI : Inv v) {a : Int} : CallOk 136 287 [.inl a] z v := by
  obtain ⟨n, a1, a2, a3, a4⟩ := hI.ht
  have e : ∀ i, i < n → v 54 i = v 242 i := fun i hi => (a4 i hi).1
  refine call_cc hI (r := hlwR (v 242) n a) (fun Q q => Eq.mpr (e_hollow (n := n) hz a2 a1 (fun i hi => by rw [e i hi]; exact (a4 i hi).2)) ?_) (fun z' y Q h c q => ?_)
  · rw [hlwR_c (f := v 242) (g := v 54) e]
    exact q _ _ (rom_rf hz) (cor_rf v)
  · have e2 := cor_f c (a := 242) (by decide) (by decide)
    refine Eq.mpr (m_hollow (n := n) h ((c 208 54 (by decide)).trans a3) a1 (fun i hi => by rw [e2]; exact (a4 i hi).2)) ?_
    rw [e2]
    exact q _ cor_told
theorem c_through (hz : Lay z) (hI : Inv v) {a : Int} : CallOk 98 260 [.inl a] z v := by
  obtain ⟨n, a1, a2, a3, a4⟩ := hI.sc
  have r2 : ∀ c, c < 64 → v 20 c = v 209 (69 + c) := a3.2.2.2.2.2.2.2.2.1
  exact call_cc hI (r := throughR (fun i => v 209 (69 + i)) a) (fun Q q => e_through hz (fun i hi => r2 i hi) q) (fun z' y Q h c q => m_through h (fun i _ => by rw [cor_f c (a := 209) (by decide) (by decide)]) q)
theorem c_cut (hz : Lay z) (hI : Inv v) {a b : Int} : CallOk 113 273 [.inl a, .inl b] z v := by
  obtain ⟨n, a1, a2, a3, a4⟩ := hI.pt
  have p : ∀ i, i < n → v 235 i = (((v 235 i).toNat : Nat) : Int) ∧ (v 235 i).toNat ≤ 99 := fun i hi => by
    have := a4 i hi
    omega
  exact call_cc hI (r := cutR (fun i => (v 235 i).toNat) n a b) (fun Q q => e_cut (n := n) hz a2 a1 (fun i hi => ⟨(a4 i hi).1.trans (p i hi).1, (p i hi).2⟩) q) (fun z' y Q h c q => m_cut (n := n) h ((c 208 46 (by decide)).trans a3) a1 (fun i hi => by rw [cor_f c (a := 235) (by decide) (by decide)]; exact p i hi) q)
theorem c_three (hz : Lay z) (hI : Inv v) {a : Int} : CallOk 143 292 [.inl a] z v := by
  obtain ⟨n, a1, a2, a3, a4⟩ := hI.th
  have p : ∀ i, i < n → v 243 i = (((v 243 i).toNat : Nat) : Int) ∧ (v 243 i).toNat ≤ 60 := fun i hi => by
    have := a4 i hi
    omega
  exact call_cc hI (r := threeR (fun i => (v 243 i).toNat) n a) (fun Q q => Eq.mpr (e_three (n := n) hz a2 a1 (fun i hi => ⟨(a4 i hi).1.trans (p i hi).1, (p i hi).2⟩)) (q _ _ (rom_rf hz) (cor_rf v))) (fun z' y Q h c q => m_three (n := n) h ((c 208 56 (by decide)).trans a3) a1 (fun i hi => by rw [cor_f c (a := 243) (by decide) (by decide)]; exact p i hi) q)
theorem c_meeting (hz : Lay z) (hI : Inv v) {a : Int} : CallOk 100 261 [.inl a] z v := by
  obtain ⟨n, a1, a2, a3, a4⟩ := hI.sc
  have r5 : ∀ i, i < 10 → v 23 i = 8 * v 209 (207 + i) + v 209 (197 + i) := a3.2.2.2.2.2.2.2.2.2.2.2.1
  have p : ∀ i, i < n → v 209 (197 + i) = (((v 209 (197 + i)).toNat : Nat) : Int) ∧ v 209 (207 + i) = (((v 209 (207 + i)).toNat : Nat) : Int) ∧ (v 209 (197 + i)).toNat ≤ 7 ∧ (v 209 (207 + i)).toNat ≤ 7 := fun i hi => by
    have := a4.1 i (by omega)
    omega
  refine call_cc hI (r := meetR (fun i => (v 209 (197 + i)).toNat) (fun i => (v 209 (207 + i)).toNat) n a) (fun Q q => Eq.mpr (e_meeting (n := n) hz a3.2.1 a1 (fun i hi => ⟨?_, (p i hi).2.2⟩)) (q _ _ (rom_rf hz) (cor_rf v))) (fun z' y Q h c q => Eq.mpr (m_meeting (n := n) h ((c 208 6 (by decide)).trans a2) a1 (fun i hi => by rw [cor_f c (a := 209) (by decide) (by decide)]; exact p i hi)) (q _ cor_told))
  rw [r5 i (by omega), ← (p i hi).1, ← (p i hi).2.1]
theorem c_stands (hz : Lay z) (hI : Inv v) {a : Int} : CallOk 103 264 [.inl a] z v := by
  obtain ⟨n, a1, a2, a3, a4⟩ := hI.sc
  have r1 : ∀ c, c < 64 → v 19 c = v 209 (5 + c) := a3.2.2.2.2.2.2.2.1
  have p : ∀ c, c < 64 → v 209 (5 + c) = if decide (v 209 (5 + c) = 1) = true then 1 else 0 := fun c hc => by
    rcases (a4.2.2 c hc).1 with e | e
    · rw [e]; rfl
    · rw [e]; rfl
  exact call_cc hI (r := standsR (fun c => decide (v 209 (5 + c) = 1)) a) (fun Q q => e_stands hz (fun c hc => (r1 c hc).trans (p c hc)) (q _ _ (rom_rf hz) (cor_rf v))) (fun z' y Q h c q => m_stands h (fun i hi => by rw [cor_f c (a := 209) (by decide) (by decide)]; exact p i hi) q)
theorem c_fault (hz : Lay z) (hI : Inv v) {a : Int} : CallOk 88 223 [.inl a] z v := by
  refine call_cc hI (r := if a = 0 then v 16 11 else if a = 1 then v 16 12 else -1) (fun Q q => Eq.mpr (e_fault hz) (q _ _ (rom_rf hz) (cor_rf v))) (fun z' y Q h c q => Eq.mpr (m_fault h) ?_)
  rw [c 208 30 (by decide), c 208 31 (by decide), ← hI.ft.1, ← hI.ft.2]
  exact q _ cor_told
theorem c_book (hz : Lay z) (hI : Inv v) {a b : Int} : CallOk 93 253 [.inl a, .inl b] z v := by
  obtain ⟨n, a1, a2, a3, a4⟩ := hI.sc
  exact call_cc hI (r := bookR (v 209) (v 69) a b) (fun Q q => Eq.mpr (e_book (n := n) hz ⟨a3, rfl⟩ a4) (q _ _ (rom_rf hz) (cor_rf v))) (fun z' y Q h c q => Eq.mpr (m_book (R := v 209) (B := v 69) h ⟨cor_f c (a := 209) (by decide) (by decide), (cor_f c (a := 213) (by decide) (by decide)).trans hI.bk.symm⟩ a4) (q _ cor_told))
theorem c_look (hz : Lay z) (hI : Inv v) {a : Int} : CallOk 176 313 [.inl a] z v := by
  obtain ⟨n, a1, a2, a3, a4⟩ := hI.sc
  obtain ⟨N, nl, l1, l2⟩ := hI.lw
  obtain ⟨nd, p1, p2, p3⟩ := hI.pl
  obtain ⟨nt, t0, t1, t2⟩ := hI.tb
  obtain ⟨qq, kk, k1, k2⟩ := hI.kr
  rw [shv17] at l2 p3 t2
  have e1 : v 27 5 = v 216 0 := l2.1.trans l1.2.2.1.symm
  have e2 : v 35 6 = v 208 32 := p3.1.trans p1.symm
  have e3 : v 17 5 = v 208 34 := hI.wd
  have e4 : v 42 6 = v 208 37 := t2.1.trans t1.symm
  have e5 : v 16 5 = v 208 3 := k1.2.2.2.1.trans k2.symm
  refine call_cc hI (r := lookR (v 209) (v 208 6) (v 216 0) (v 208 32) (v 208 34) (v 208 37) (v 208 3) a) (fun Q q => Eq.mpr (e_look (B := v 69) hz ⟨a3, rfl⟩) ?_) (fun z' y Q h c q => Eq.mpr (m_look (R := v 209) h (cor_f c (a := 209) (by decide) (by decide)) a4) ?_)
  · rw [e1, e2, e3, e4, e5, ← a2]
    exact q _ _ (rom_rf hz) (cor_rf v)
  · rw [c 208 6 (by decide), c 216 0 (by decide), c 208 32 (by decide), c 208 34 (by decide), c 208 37 (by decide), c 208 3 (by decide)]
    exact q _ cor_told
end CL
section PA
variable {d : Nat} {z : xZ} {v : xV} {Q : xZ → xV → xv → Prop} {r : Nat → Nat}
theorem e_pairs0 (hz : Lay z) (hw : ∀ j, j < 8 → wok (r j) ∧ ∀ k, k < 4 → v (61 + j) k = (rk (r j) k : Int)) (hQ : ∀ z' v' (a : Nat → Nat) (h : Nat → Int), rom z z' → cor v v' → pFin (pL r) (pR r) a h → pK (pL r) (pR r) a → Q z' v' (.inl (pRow r a))) : EvM TB (d + 3) 124 z v [.inr (.inl 16), .inl 0] Q := by
  rw [e_ev]
  simp -implicitDefEqProofs only [lay_n, lay_i, lay_a, lay_l, x_nil, x_iconst, x_lconst, x_ldc, x_iload, x_aload, x_lload, x_istore, x_astore, x_lstore, x_iinc, x_iadd, x_isub, x_imul, x_idiv, x_irem, x_ineg, x_iand, x_ior, x_ixor, x_ishl, x_ishr, x_iushr, x_i2b, x_i2c, x_i2l, x_l2i, x_ladd, x_lsub, x_lmul, x_land, x_lor, x_lxor, x_ldiv, x_lrem, x_lneg, x_lshl, x_lushr, x_lcmp, x_max, x_min, x_abs, x_labs, x_lmax, x_dupI, x_dupA, x_dup2, x_popI, x_popA, x_goto, x_eq, x_ne, x_lt, x_ge, x_gt, x_le, x_ceq, x_cne, x_clt, x_cge, x_cgt, x_cle, x_sw, x_getI, x_getR, x_putI, x_putZ, x_putR, x_new, x_newI, x_newC, x_newL, x_anew, x_multi, x_alen, x_iald, x_cald, x_bald, x_lald, x_aald, x_iast, x_cast, x_last, x_aast, x_copy, x_obj, x_call, x_callL, x_iret, x_zret, x_cret, x_bret, x_lret, x_ret, ldI_i, ldA_a, ldL_l, nth_0, nth_s, sto_n0, sto_ns, sto_0, sto_i, sto_a, sto_l0, sto_ls, psh_t, psh_f, spl, splL, sh4, rcv, swK, stoL, clr, reduceIte, Int.reduceEq, Int.reduceLT, Int.reduceLE, Int.reduceAdd, Int.reduceSub, Int.reduceNeg, or_true, true_or, or_false, false_or, false_and, and_false, not_false_eq_true, not_true_eq_false, ne_eq, Nat.reduceDiv, Nat.reduceMod, Nat.reduceAdd, Nat.reduceMul, Nat.reduceBEq, Int.reduceToNat, Int.toNat_natCast, Nat.reduceEqDiff, Nat.reduceLT, Nat.reduceLeDiff, beq_self_eq_true, beq_iff_eq, true_and, and_true, Bool.false_eq_true, ite_self, Int.reduceTMod, Int.reduceTDiv, List.tail_cons, List.cons_append, List.nil_append, Nat.zero_add, g_124_0, g_124_18, g_124_39, g_124_40, hh_1 hz, hc_1 hz, hh_2 hz, hc_2 hz, hh_3 hz, hr_3_0 hz, hh_4 hz, hr_4_0 hz, hh_5 hz, hr_5_0 hz, hh_6 hz, hc_6 hz, hh_7 hz, hc_7 hz, hh_8 hz, hc_8 hz, hh_10 hz, hh_16 hz, hr_16_0 hz, hr_16_1 hz, hr_16_3 hz, hr_16_4 hz, hr_16_7 hz, hr_16_9 hz, hr_16_10 hz, hh_17 hz, hr_17_0 hz, hr_17_1 hz, hr_17_2 hz, hr_17_3 hz, hr_17_4 hz, hr_17_6 hz, hh_18 hz, hr_18_1 hz, hr_18_2 hz, hr_18_3 hz, hr_18_4 hz, hr_18_5 hz, hr_18_6 hz, hr_18_7 hz, hr_18_8 hz, hh_19 hz, hc_19 hz, hh_20 hz, hc_20 hz, hh_21 hz, hc_21 hz, hh_22 hz, hc_22 hz, hh_23 hz, hc_23 hz, hh_24 hz, hc_24 hz, hh_25 hz, hc_25 hz, hh_26 hz, hc_26 hz, hh_27 hz, hr_27_0 hz, hr_27_1 hz, hr_27_2 hz, hr_27_3 hz, hr_27_4 hz, hr_27_7 hz, hr_27_8 hz, hh_28 hz, hc_28 hz, hh_29 hz, hc_29 hz, hh_30 hz, hc_30 hz, hh_31 hz, hc_31 hz, hh_32 hz, hc_32 hz, hh_33 hz, hc_33 hz, hh_34 hz, hc_34 hz, hh_35 hz, hr_35_0 hz, hr_35_1 hz, hr_35_2 hz, hr_35_3 hz, hr_35_4 hz, hr_35_5 hz, hh_36 hz, hc_36 hz, hh_37 hz, hc_37 hz, hh_38 hz, hc_38 hz, hh_39 hz, hc_39 hz, hh_40 hz, hc_40 hz, hh_41 hz, hc_41 hz, hh_42 hz, hr_42_0 hz, hr_42_1 hz, hr_42_2 hz, hr_42_3 hz, hr_42_4 hz, hr_42_5 hz, hh_43 hz, hc_43 hz, hh_44 hz, hc_44 hz, hh_45 hz, hc_45 hz, hh_46 hz, hc_46 hz, hh_47 hz, hc_47 hz, hh_48 hz, hc_48 hz, hh_49 hz, hr_49_0 hz, hr_49_1 hz, hr_49_2 hz, hr_49_3 hz, hr_49_4 hz, hr_49_5 hz, hh_50 hz, hc_50 hz, hh_51 hz, hr_51_0 hz, hh_52 hz, hc_52 hz, hh_53 hz, hr_53_0 hz, hh_54 hz, hc_54 hz, hh_55 hz, hr_55_0 hz, hh_56 hz, hc_56 hz, hh_57 hz, hr_57_0 hz, hh_58 hz, hc_58 hz, hh_59 hz, hr_59_0 hz, hh_60 hz, hc_60 hz, hr_60_0 hz, hr_60_1 hz, hr_60_2 hz, hr_60_3 hz, hr_60_4 hz, hr_60_5 hz, hr_60_6 hz, hr_60_7 hz, hh_61 hz, hc_61 hz, hh_62 hz, hc_62 hz, hh_63 hz, hc_63 hz, hh_64 hz, hc_64 hz, hh_65 hz, hc_65 hz, hh_66 hz, hc_66 hz, hh_67 hz, hc_67 hz, hh_68 hz, hc_68 hz, hh_69 hz, hc_69 hz, hh_70 hz, hr_70_0 hz, hr_70_1 hz, hr_70_2 hz, hr_70_3 hz, hr_70_4 hz, hr_70_6 hz, hh_123 hz, hr_123_1 hz, hr_123_2 hz, hr_123_3 hz, hr_123_4 hz, hr_123_5 hz, hr_123_6 hz, hr_123_7 hz, hr_123_8 hz, hh_124 hz, hc_124 hz, hh_125 hz, hc_125 hz, hh_126 hz, hc_126 hz, hh_127 hz, hc_127 hz, hh_128 hz, hc_128 hz, hh_129 hz, hc_129 hz, hh_130 hz, hc_130 hz, hh_131 hz, hc_131 hz, hh_132 hz, hc_132 hz, hr_132_0 hz, hr_132_1 hz, hr_132_2 hz, hr_132_3 hz, hr_132_4 hz, hr_132_5 hz, hh_133 hz, hc_133 hz, hh_134 hz, hr_134_0 hz, hr_134_1 hz, hr_134_2 hz, hh_135 hz, hr_135_0 hz, hr_135_1 hz, hh_136 hz, hc_136 hz, hh_137 hz, hc_137 hz, hh_138 hz, hr_138_0 hz, hr_138_1 hz, hr_138_2 hz, hr_138_3 hz, hr_138_4 hz, hr_138_7 hz, hr_138_8 hz, hh_139 hz, hc_139 hz, hh_140 hz, hc_140 hz, hh_141 hz, hc_141 hz, hh_142 hz, hc_142 hz, hh_143 hz, hc_143 hz, hh_144 hz, hc_144 hz, hh_145 hz, hc_145 hz, hh_146 hz, hc_146 hz, hh_147 hz, hr_147_0 hz, hr_147_1 hz, hr_147_2 hz, hr_147_3 hz, hr_147_4 hz, hr_147_5 hz, hh_148 hz, hc_148 hz, hh_149 hz, hc_149 hz, hh_150 hz, hc_150 hz, hh_151 hz, hc_151 hz, hh_152 hz, hc_152 hz, hh_153 hz, hc_153 hz, hh_154 hz, hr_154_1 hz, hr_154_2 hz, hr_154_3 hz, hr_154_4 hz, hr_154_5 hz, hr_154_6 hz, hr_154_7 hz, hr_154_8 hz, hh_155 hz, hc_155 hz, hh_156 hz, hc_156 hz, hh_157 hz, hc_157 hz, hh_158 hz, hc_158 hz, hh_159 hz, hc_159 hz, hh_160 hz, hc_160 hz, hh_161 hz, hc_161 hz, hh_162 hz, hc_162 hz, hh_163 hz, hr_163_1 hz, hr_163_2 hz, hr_163_3 hz, hr_163_4 hz, hr_163_5 hz, hr_163_6 hz, hr_163_7 hz, hr_163_8 hz, hh_164 hz, hc_164 hz, hh_165 hz, hc_165 hz, hh_166 hz, hc_166 hz, hh_167 hz, hc_167 hz, hh_168 hz, hc_168 hz, hh_169 hz, hc_169 hz, hh_170 hz, hc_170 hz, hh_171 hz, hc_171 hz, hh_172 hz, hr_172_1 hz, hr_172_2 hz, hr_172_3 hz, hr_172_4 hz, hr_172_5 hz, hr_172_6 hz, hr_172_7 hz, hr_172_8 hz, hh_173 hz, hc_173 hz, hh_174 hz, hc_174 hz, hh_175 hz, hc_175 hz, hh_176 hz, hc_176 hz, hh_177 hz, hc_177 hz, hh_178 hz, hc_178 hz, hh_179 hz, hc_179 hz, hh_180 hz, hc_180 hz, hh_181 hz, hr_181_1 hz, hr_181_2 hz, hr_181_3 hz, hr_181_4 hz, hr_181_5 hz, hr_181_6 hz, hr_181_7 hz, hr_181_8 hz, hh_182 hz, hc_182 hz, hh_183 hz, hc_183 hz, hh_184 hz, hc_184 hz, hh_185 hz, hc_185 hz, hh_186 hz, hc_186 hz, hh_187 hz, hc_187 hz, hh_188 hz, hc_188 hz, hh_189 hz, hc_189 hz, hh_190 hz, hr_190_1 hz, hr_190_2 hz, hr_190_3 hz, hr_190_4 hz, hr_190_5 hz, hr_190_6 hz, hr_190_7 hz, hr_190_8 hz, hh_191 hz, hc_191 hz, hh_192 hz, hc_192 hz, hh_193 hz, hc_193 hz, hh_194 hz, hc_194 hz, hh_195 hz, hc_195 hz, hh_196 hz, hc_196 hz, hh_197 hz, hc_197 hz, hh_198 hz, hc_198 hz, hh_199 hz, hr_199_1 hz, hr_199_2 hz, hr_199_3 hz, hr_199_4 hz, hr_199_5 hz, hr_199_6 hz, hr_199_7 hz, hr_199_8 hz, hh_200 hz, hc_200 hz, hh_201 hz, hc_201 hz, hh_202 hz, hc_202 hz, hh_203 hz, hc_203 hz, hh_204 hz, hc_204 hz, hh_205 hz, hc_205 hz, hh_206 hz, hc_206 hz, hh_207 hz, hc_207 hz]
  refine e_asked hz hw (fun z' v' a h c1 c2 c3 c4 => ?_)
  simp -implicitDefEqProofs only [lay_n, lay_i, lay_a, lay_l, x_nil, x_iconst, x_lconst, x_ldc, x_iload, x_aload, x_lload, x_istore, x_astore, x_lstore, x_iinc, x_iadd, x_isub, x_imul, x_idiv, x_irem, x_ineg, x_iand, x_ior, x_ixor, x_ishl, x_ishr, x_iushr, x_i2b, x_i2c, x_i2l, x_l2i, x_ladd, x_lsub, x_lmul, x_land, x_lor, x_lxor, x_ldiv, x_lrem, x_lneg, x_lshl, x_lushr, x_lcmp, x_max, x_min, x_abs, x_labs, x_lmax, x_dupI, x_dupA, x_dup2, x_popI, x_popA, x_goto, x_eq, x_ne, x_lt, x_ge, x_gt, x_le, x_ceq, x_cne, x_clt, x_cge, x_cgt, x_cle, x_sw, x_getI, x_getR, x_putI, x_putZ, x_putR, x_new, x_newI, x_newC, x_newL, x_anew, x_multi, x_alen, x_iald, x_cald, x_bald, x_lald, x_aald, x_iast, x_cast, x_last, x_aast, x_copy, x_obj, x_call, x_callL, x_iret, x_zret, x_cret, x_bret, x_lret, x_ret, ldI_i, ldA_a, ldL_l, nth_0, nth_s, sto_n0, sto_ns, sto_0, sto_i, sto_a, sto_l0, sto_ls, psh_t, psh_f, spl, splL, sh4, rcv, swK, stoL, clr, reduceIte, Int.reduceEq, Int.reduceLT, Int.reduceLE, Int.reduceAdd, Int.reduceSub, Int.reduceNeg, or_true, true_or, or_false, false_or, false_and, and_false, not_false_eq_true, not_true_eq_false, ne_eq, Nat.reduceDiv, Nat.reduceMod, Nat.reduceAdd, Nat.reduceMul, Nat.reduceBEq, Int.reduceToNat, Int.toNat_natCast, Nat.reduceEqDiff, Nat.reduceLT, Nat.reduceLeDiff, beq_self_eq_true, beq_iff_eq, true_and, and_true, Bool.false_eq_true, ite_self, Int.reduceTMod, Int.reduceTDiv, List.tail_cons, List.cons_append, List.nil_append, Nat.zero_add, g_124_0, g_124_18, g_124_39, g_124_40]
  exact hQ z' v' a h c1 c2 c3 c4
theorem e_pairs1 (hz : Lay z) (hw : ∀ j, j < 8 → ∀ k, k < 4 → v (61 + j) k = (rk (r j) k : Int)) (hQ : ∀ z' v', rom z z' → cor v v' → Q z' v' (.inl (@cnt (stOk r) (stOd r) 256 : Int))) : EvM TB (d + 3) 124 z v [.inr (.inl 16), .inl 1] Q := by
  rw [e_ev]
  simp -implicitDefEqProofs only [lay_n, lay_i, lay_a, lay_l, x_nil, x_iconst, x_lconst, x_ldc, x_iload, x_aload, x_lload, x_istore, x_astore, x_lstore, x_iinc, x_iadd, x_isub, x_imul, x_idiv, x_irem, x_ineg, x_iand, x_ior, x_ixor, x_ishl, x_ishr, x_iushr, x_i2b, x_i2c, x_i2l, x_l2i, x_ladd, x_lsub, x_lmul, x_land, x_lor, x_lxor, x_ldiv, x_lrem, x_lneg, x_lshl, x_lushr, x_lcmp, x_max, x_min, x_abs, x_labs, x_lmax, x_dupI, x_dupA, x_dup2, x_popI, x_popA, x_goto, x_eq, x_ne, x_lt, x_ge, x_gt, x_le, x_ceq, x_cne, x_clt, x_cge, x_cgt, x_cle, x_sw, x_getI, x_getR, x_putI, x_putZ, x_putR, x_new, x_newI, x_newC, x_newL, x_anew, x_multi, x_alen, x_iald, x_cald, x_bald, x_lald, x_aald, x_iast, x_cast, x_last, x_aast, x_copy, x_obj, x_call, x_callL, x_iret, x_zret, x_cret, x_bret, x_lret, x_ret, ldI_i, ldA_a, ldL_l, nth_0, nth_s, sto_n0, sto_ns, sto_0, sto_i, sto_a, sto_l0, sto_ls, psh_t, psh_f, spl, splL, sh4, rcv, swK, stoL, clr, reduceIte, Int.reduceEq, Int.reduceLT, Int.reduceLE, Int.reduceAdd, Int.reduceSub, Int.reduceNeg, or_true, true_or, or_false, false_or, false_and, and_false, not_false_eq_true, not_true_eq_false, ne_eq, Nat.reduceDiv, Nat.reduceMod, Nat.reduceAdd, Nat.reduceMul, Nat.reduceBEq, Int.reduceToNat, Int.toNat_natCast, Nat.reduceEqDiff, Nat.reduceLT, Nat.reduceLeDiff, beq_self_eq_true, beq_iff_eq, true_and, and_true, Bool.false_eq_true, ite_self, Int.reduceTMod, Int.reduceTDiv, List.tail_cons, List.cons_append, List.nil_append, Nat.zero_add, g_124_0, g_124_18, g_124_39, g_124_40, hh_1 hz, hc_1 hz, hh_2 hz, hc_2 hz, hh_3 hz, hr_3_0 hz, hh_4 hz, hr_4_0 hz, hh_5 hz, hr_5_0 hz, hh_6 hz, hc_6 hz, hh_7 hz, hc_7 hz, hh_8 hz, hc_8 hz, hh_10 hz, hh_16 hz, hr_16_0 hz, hr_16_1 hz, hr_16_3 hz, hr_16_4 hz, hr_16_7 hz, hr_16_9 hz, hr_16_10 hz, hh_17 hz, hr_17_0 hz, hr_17_1 hz, hr_17_2 hz, hr_17_3 hz, hr_17_4 hz, hr_17_6 hz, hh_18 hz, hr_18_1 hz, hr_18_2 hz, hr_18_3 hz, hr_18_4 hz, hr_18_5 hz, hr_18_6 hz, hr_18_7 hz, hr_18_8 hz, hh_19 hz, hc_19 hz, hh_20 hz, hc_20 hz, hh_21 hz, hc_21 hz, hh_22 hz, hc_22 hz, hh_23 hz, hc_23 hz, hh_24 hz, hc_24 hz, hh_25 hz, hc_25 hz, hh_26 hz, hc_26 hz, hh_27 hz, hr_27_0 hz, hr_27_1 hz, hr_27_2 hz, hr_27_3 hz, hr_27_4 hz, hr_27_7 hz, hr_27_8 hz, hh_28 hz, hc_28 hz, hh_29 hz, hc_29 hz, hh_30 hz, hc_30 hz, hh_31 hz, hc_31 hz, hh_32 hz, hc_32 hz, hh_33 hz, hc_33 hz, hh_34 hz, hc_34 hz, hh_35 hz, hr_35_0 hz, hr_35_1 hz, hr_35_2 hz, hr_35_3 hz, hr_35_4 hz, hr_35_5 hz, hh_36 hz, hc_36 hz, hh_37 hz, hc_37 hz, hh_38 hz, hc_38 hz, hh_39 hz, hc_39 hz, hh_40 hz, hc_40 hz, hh_41 hz, hc_41 hz, hh_42 hz, hr_42_0 hz, hr_42_1 hz, hr_42_2 hz, hr_42_3 hz, hr_42_4 hz, hr_42_5 hz, hh_43 hz, hc_43 hz, hh_44 hz, hc_44 hz, hh_45 hz, hc_45 hz, hh_46 hz, hc_46 hz, hh_47 hz, hc_47 hz, hh_48 hz, hc_48 hz, hh_49 hz, hr_49_0 hz, hr_49_1 hz, hr_49_2 hz, hr_49_3 hz, hr_49_4 hz, hr_49_5 hz, hh_50 hz, hc_50 hz, hh_51 hz, hr_51_0 hz, hh_52 hz, hc_52 hz, hh_53 hz, hr_53_0 hz, hh_54 hz, hc_54 hz, hh_55 hz, hr_55_0 hz, hh_56 hz, hc_56 hz, hh_57 hz, hr_57_0 hz, hh_58 hz, hc_58 hz, hh_59 hz, hr_59_0 hz, hh_60 hz, hc_60 hz, hr_60_0 hz, hr_60_1 hz, hr_60_2 hz, hr_60_3 hz, hr_60_4 hz, hr_60_5 hz, hr_60_6 hz, hr_60_7 hz, hh_61 hz, hc_61 hz, hh_62 hz, hc_62 hz, hh_63 hz, hc_63 hz, hh_64 hz, hc_64 hz, hh_65 hz, hc_65 hz, hh_66 hz, hc_66 hz, hh_67 hz, hc_67 hz, hh_68 hz, hc_68 hz, hh_69 hz, hc_69 hz, hh_70 hz, hr_70_0 hz, hr_70_1 hz, hr_70_2 hz, hr_70_3 hz, hr_70_4 hz, hr_70_6 hz, hh_123 hz, hr_123_1 hz, hr_123_2 hz, hr_123_3 hz, hr_123_4 hz, hr_123_5 hz, hr_123_6 hz, hr_123_7 hz, hr_123_8 hz, hh_124 hz, hc_124 hz, hh_125 hz, hc_125 hz, hh_126 hz, hc_126 hz, hh_127 hz, hc_127 hz, hh_128 hz, hc_128 hz, hh_129 hz, hc_129 hz, hh_130 hz, hc_130 hz, hh_131 hz, hc_131 hz, hh_132 hz, hc_132 hz, hr_132_0 hz, hr_132_1 hz, hr_132_2 hz, hr_132_3 hz, hr_132_4 hz, hr_132_5 hz, hh_133 hz, hc_133 hz, hh_134 hz, hr_134_0 hz, hr_134_1 hz, hr_134_2 hz, hh_135 hz, hr_135_0 hz, hr_135_1 hz, hh_136 hz, hc_136 hz, hh_137 hz, hc_137 hz, hh_138 hz, hr_138_0 hz, hr_138_1 hz, hr_138_2 hz, hr_138_3 hz, hr_138_4 hz, hr_138_7 hz, hr_138_8 hz, hh_139 hz, hc_139 hz, hh_140 hz, hc_140 hz, hh_141 hz, hc_141 hz, hh_142 hz, hc_142 hz, hh_143 hz, hc_143 hz, hh_144 hz, hc_144 hz, hh_145 hz, hc_145 hz, hh_146 hz, hc_146 hz, hh_147 hz, hr_147_0 hz, hr_147_1 hz, hr_147_2 hz, hr_147_3 hz, hr_147_4 hz, hr_147_5 hz, hh_148 hz, hc_148 hz, hh_149 hz, hc_149 hz, hh_150 hz, hc_150 hz, hh_151 hz, hc_151 hz, hh_152 hz, hc_152 hz, hh_153 hz, hc_153 hz, hh_154 hz, hr_154_1 hz, hr_154_2 hz, hr_154_3 hz, hr_154_4 hz, hr_154_5 hz, hr_154_6 hz, hr_154_7 hz, hr_154_8 hz, hh_155 hz, hc_155 hz, hh_156 hz, hc_156 hz, hh_157 hz, hc_157 hz, hh_158 hz, hc_158 hz, hh_159 hz, hc_159 hz, hh_160 hz, hc_160 hz, hh_161 hz, hc_161 hz, hh_162 hz, hc_162 hz, hh_163 hz, hr_163_1 hz, hr_163_2 hz, hr_163_3 hz, hr_163_4 hz, hr_163_5 hz, hr_163_6 hz, hr_163_7 hz, hr_163_8 hz, hh_164 hz, hc_164 hz, hh_165 hz, hc_165 hz, hh_166 hz, hc_166 hz, hh_167 hz, hc_167 hz, hh_168 hz, hc_168 hz, hh_169 hz, hc_169 hz, hh_170 hz, hc_170 hz, hh_171 hz, hc_171 hz, hh_172 hz, hr_172_1 hz, hr_172_2 hz, hr_172_3 hz, hr_172_4 hz, hr_172_5 hz, hr_172_6 hz, hr_172_7 hz, hr_172_8 hz, hh_173 hz, hc_173 hz, hh_174 hz, hc_174 hz, hh_175 hz, hc_175 hz, hh_176 hz, hc_176 hz, hh_177 hz, hc_177 hz, hh_178 hz, hc_178 hz, hh_179 hz, hc_179 hz, hh_180 hz, hc_180 hz, hh_181 hz, hr_181_1 hz, hr_181_2 hz, hr_181_3 hz, hr_181_4 hz, hr_181_5 hz, hr_181_6 hz, hr_181_7 hz, hr_181_8 hz, hh_182 hz, hc_182 hz, hh_183 hz, hc_183 hz, hh_184 hz, hc_184 hz, hh_185 hz, hc_185 hz, hh_186 hz, hc_186 hz, hh_187 hz, hc_187 hz, hh_188 hz, hc_188 hz, hh_189 hz, hc_189 hz, hh_190 hz, hr_190_1 hz, hr_190_2 hz, hr_190_3 hz, hr_190_4 hz, hr_190_5 hz, hr_190_6 hz, hr_190_7 hz, hr_190_8 hz, hh_191 hz, hc_191 hz, hh_192 hz, hc_192 hz, hh_193 hz, hc_193 hz, hh_194 hz, hc_194 hz, hh_195 hz, hc_195 hz, hh_196 hz, hc_196 hz, hh_197 hz, hc_197 hz, hh_198 hz, hc_198 hz, hh_199 hz, hr_199_1 hz, hr_199_2 hz, hr_199_3 hz, hr_199_4 hz, hr_199_5 hz, hr_199_6 hz, hr_199_7 hz, hr_199_8 hz, hh_200 hz, hc_200 hz, hh_201 hz, hc_201 hz, hh_202 hz, hc_202 hz, hh_203 hz, hc_203 hz, hh_204 hz, hc_204 hz, hh_205 hz, hc_205 hz, hh_206 hz, hc_206 hz, hh_207 hz, hc_207 hz]
  refine e_sways hz hw (fun z' v' c1 c2 => ?_)
  simp -implicitDefEqProofs only [lay_n, lay_i, lay_a, lay_l, x_nil, x_iconst, x_lconst, x_ldc, x_iload, x_aload, x_lload, x_istore, x_astore, x_lstore, x_iinc, x_iadd, x_isub, x_imul, x_idiv, x_irem, x_ineg, x_iand, x_ior, x_ixor, x_ishl, x_ishr, x_iushr, x_i2b, x_i2c, x_i2l, x_l2i, x_ladd, x_lsub, x_lmul, x_land, x_lor, x_lxor, x_ldiv, x_lrem, x_lneg, x_lshl, x_lushr, x_lcmp, x_max, x_min, x_abs, x_labs, x_lmax, x_dupI, x_dupA, x_dup2, x_popI, x_popA, x_goto, x_eq, x_ne, x_lt, x_ge, x_gt, x_le, x_ceq, x_cne, x_clt, x_cge, x_cgt, x_cle, x_sw, x_getI, x_getR, x_putI, x_putZ, x_putR, x_new, x_newI, x_newC, x_newL, x_anew, x_multi, x_alen, x_iald, x_cald, x_bald, x_lald, x_aald, x_iast, x_cast, x_last, x_aast, x_copy, x_obj, x_call, x_callL, x_iret, x_zret, x_cret, x_bret, x_lret, x_ret, ldI_i, ldA_a, ldL_l, nth_0, nth_s, sto_n0, sto_ns, sto_0, sto_i, sto_a, sto_l0, sto_ls, psh_t, psh_f, spl, splL, sh4, rcv, swK, stoL, clr, reduceIte, Int.reduceEq, Int.reduceLT, Int.reduceLE, Int.reduceAdd, Int.reduceSub, Int.reduceNeg, or_true, true_or, or_false, false_or, false_and, and_false, not_false_eq_true, not_true_eq_false, ne_eq, Nat.reduceDiv, Nat.reduceMod, Nat.reduceAdd, Nat.reduceMul, Nat.reduceBEq, Int.reduceToNat, Int.toNat_natCast, Nat.reduceEqDiff, Nat.reduceLT, Nat.reduceLeDiff, beq_self_eq_true, beq_iff_eq, true_and, and_true, Bool.false_eq_true, ite_self, Int.reduceTMod, Int.reduceTDiv, List.tail_cons, List.cons_append, List.nil_append, Nat.zero_add, g_124_0, g_124_18, g_124_39, g_124_40]
  exact hQ z' v' c1 c2
theorem e_pairs9 (hz : Lay z) {a : Int} (h0 : a ≠ 0) (h1 : a ≠ 1) : EvM TB (d + 3) 124 z v [.inr (.inl 16), .inl a] Q = Q z v (.inl (-1)) := by
  rw [e_ev]
  simp -implicitDefEqProofs only [lay_n, lay_i, lay_a, lay_l, x_nil, x_iconst, x_lconst, x_ldc, x_iload, x_aload, x_lload, x_istore, x_astore, x_lstore, x_iinc, x_iadd, x_isub, x_imul, x_idiv, x_irem, x_ineg, x_iand, x_ior, x_ixor, x_ishl, x_ishr, x_iushr, x_i2b, x_i2c, x_i2l, x_l2i, x_ladd, x_lsub, x_lmul, x_land, x_lor, x_lxor, x_ldiv, x_lrem, x_lneg, x_lshl, x_lushr, x_lcmp, x_max, x_min, x_abs, x_labs, x_lmax, x_dupI, x_dupA, x_dup2, x_popI, x_popA, x_goto, x_eq, x_ne, x_lt, x_ge, x_gt, x_le, x_ceq, x_cne, x_clt, x_cge, x_cgt, x_cle, x_sw, x_getI, x_getR, x_putI, x_putZ, x_putR, x_new, x_newI, x_newC, x_newL, x_anew, x_multi, x_alen, x_iald, x_cald, x_bald, x_lald, x_aald, x_iast, x_cast, x_last, x_aast, x_copy, x_obj, x_call, x_callL, x_iret, x_zret, x_cret, x_bret, x_lret, x_ret, ldI_i, ldA_a, ldL_l, nth_0, nth_s, sto_n0, sto_ns, sto_0, sto_i, sto_a, sto_l0, sto_ls, psh_t, psh_f, spl, splL, sh4, rcv, swK, stoL, clr, reduceIte, Int.reduceEq, Int.reduceLT, Int.reduceLE, Int.reduceAdd, Int.reduceSub, Int.reduceNeg, or_true, true_or, or_false, false_or, false_and, and_false, not_false_eq_true, not_true_eq_false, ne_eq, Nat.reduceDiv, Nat.reduceMod, Nat.reduceAdd, Nat.reduceMul, Nat.reduceBEq, Int.reduceToNat, Int.toNat_natCast, Nat.reduceEqDiff, Nat.reduceLT, Nat.reduceLeDiff, beq_self_eq_true, beq_iff_eq, true_and, and_true, Bool.false_eq_true, ite_self, Int.reduceTMod, Int.reduceTDiv, List.tail_cons, List.cons_append, List.nil_append, Nat.zero_add, g_124_0, g_124_18, g_124_39, g_124_40, hh_1 hz, hc_1 hz, hh_2 hz, hc_2 hz, hh_3 hz, hr_3_0 hz, hh_4 hz, hr_4_0 hz, hh_5 hz, hr_5_0 hz, hh_6 hz, hc_6 hz, hh_7 hz, hc_7 hz, hh_8 hz, hc_8 hz, hh_10 hz, hh_16 hz, hr_16_0 hz, hr_16_1 hz, hr_16_3 hz, hr_16_4 hz, hr_16_7 hz, hr_16_9 hz, hr_16_10 hz, hh_17 hz, hr_17_0 hz, hr_17_1 hz, hr_17_2 hz, hr_17_3 hz, hr_17_4 hz, hr_17_6 hz, hh_18 hz, hr_18_1 hz, hr_18_2 hz, hr_18_3 hz, hr_18_4 hz, hr_18_5 hz, hr_18_6 hz, hr_18_7 hz, hr_18_8 hz, hh_19 hz, hc_19 hz, hh_20 hz, hc_20 hz, hh_21 hz, hc_21 hz, hh_22 hz, hc_22 hz, hh_23 hz, hc_23 hz, hh_24 hz, hc_24 hz, hh_25 hz, hc_25 hz, hh_26 hz, hc_26 hz, hh_27 hz, hr_27_0 hz, hr_27_1 hz, hr_27_2 hz, hr_27_3 hz, hr_27_4 hz, hr_27_7 hz, hr_27_8 hz, hh_28 hz, hc_28 hz, hh_29 hz, hc_29 hz, hh_30 hz, hc_30 hz, hh_31 hz, hc_31 hz, hh_32 hz, hc_32 hz, hh_33 hz, hc_33 hz, hh_34 hz, hc_34 hz, hh_35 hz, hr_35_0 hz, hr_35_1 hz, hr_35_2 hz, hr_35_3 hz, hr_35_4 hz, hr_35_5 hz, hh_36 hz, hc_36 hz, hh_37 hz, hc_37 hz, hh_38 hz, hc_38 hz, hh_39 hz, hc_39 hz, hh_40 hz, hc_40 hz, hh_41 hz, hc_41 hz, hh_42 hz, hr_42_0 hz, hr_42_1 hz, hr_42_2 hz, hr_42_3 hz, hr_42_4 hz, hr_42_5 hz, hh_43 hz, hc_43 hz, hh_44 hz, hc_44 hz, hh_45 hz, hc_45 hz, hh_46 hz, hc_46 hz, hh_47 hz, hc_47 hz, hh_48 hz, hc_48 hz, hh_49 hz, hr_49_0 hz, hr_49_1 hz, hr_49_2 hz, hr_49_3 hz, hr_49_4 hz, hr_49_5 hz, hh_50 hz, hc_50 hz, hh_51 hz, hr_51_0 hz, hh_52 hz, hc_52 hz, hh_53 hz, hr_53_0 hz, hh_54 hz, hc_54 hz, hh_55 hz, hr_55_0 hz, hh_56 hz, hc_56 hz, hh_57 hz, hr_57_0 hz, hh_58 hz, hc_58 hz, hh_59 hz, hr_59_0 hz, hh_60 hz, hc_60 hz, hr_60_0 hz, hr_60_1 hz, hr_60_2 hz, hr_60_3 hz, hr_60_4 hz, hr_60_5 hz, hr_60_6 hz, hr_60_7 hz, hh_61 hz, hc_61 hz, hh_62 hz, hc_62 hz, hh_63 hz, hc_63 hz, hh_64 hz, hc_64 hz, hh_65 hz, hc_65 hz, hh_66 hz, hc_66 hz, hh_67 hz, hc_67 hz, hh_68 hz, hc_68 hz, hh_69 hz, hc_69 hz, hh_70 hz, hr_70_0 hz, hr_70_1 hz, hr_70_2 hz, hr_70_3 hz, hr_70_4 hz, hr_70_6 hz, hh_123 hz, hr_123_1 hz, hr_123_2 hz, hr_123_3 hz, hr_123_4 hz, hr_123_5 hz, hr_123_6 hz, hr_123_7 hz, hr_123_8 hz, hh_124 hz, hc_124 hz, hh_125 hz, hc_125 hz, hh_126 hz, hc_126 hz, hh_127 hz, hc_127 hz, hh_128 hz, hc_128 hz, hh_129 hz, hc_129 hz, hh_130 hz, hc_130 hz, hh_131 hz, hc_131 hz, hh_132 hz, hc_132 hz, hr_132_0 hz, hr_132_1 hz, hr_132_2 hz, hr_132_3 hz, hr_132_4 hz, hr_132_5 hz, hh_133 hz, hc_133 hz, hh_134 hz, hr_134_0 hz, hr_134_1 hz, hr_134_2 hz, hh_135 hz, hr_135_0 hz, hr_135_1 hz, hh_136 hz, hc_136 hz, hh_137 hz, hc_137 hz, hh_138 hz, hr_138_0 hz, hr_138_1 hz, hr_138_2 hz, hr_138_3 hz, hr_138_4 hz, hr_138_7 hz, hr_138_8 hz, hh_139 hz, hc_139 hz, hh_140 hz, hc_140 hz, hh_141 hz, hc_141 hz, hh_142 hz, hc_142 hz, hh_143 hz, hc_143 hz, hh_144 hz, hc_144 hz, hh_145 hz, hc_145 hz, hh_146 hz, hc_146 hz, hh_147 hz, hr_147_0 hz, hr_147_1 hz, hr_147_2 hz, hr_147_3 hz, hr_147_4 hz, hr_147_5 hz, hh_148 hz, hc_148 hz, hh_149 hz, hc_149 hz, hh_150 hz, hc_150 hz, hh_151 hz, hc_151 hz, hh_152 hz, hc_152 hz, hh_153 hz, hc_153 hz, hh_154 hz, hr_154_1 hz, hr_154_2 hz, hr_154_3 hz, hr_154_4 hz, hr_154_5 hz, hr_154_6 hz, hr_154_7 hz, hr_154_8 hz, hh_155 hz, hc_155 hz, hh_156 hz, hc_156 hz, hh_157 hz, hc_157 hz, hh_158 hz, hc_158 hz, hh_159 hz, hc_159 hz, hh_160 hz, hc_160 hz, hh_161 hz, hc_161 hz, hh_162 hz, hc_162 hz, hh_163 hz, hr_163_1 hz, hr_163_2 hz, hr_163_3 hz, hr_163_4 hz, hr_163_5 hz, hr_163_6 hz, hr_163_7 hz, hr_163_8 hz, hh_164 hz, hc_164 hz, hh_165 hz, hc_165 hz, hh_166 hz, hc_166 hz, hh_167 hz, hc_167 hz, hh_168 hz, hc_168 hz, hh_169 hz, hc_169 hz, hh_170 hz, hc_170 hz, hh_171 hz, hc_171 hz, hh_172 hz, hr_172_1 hz, hr_172_2 hz, hr_172_3 hz, hr_172_4 hz, hr_172_5 hz, hr_172_6 hz, hr_172_7 hz, hr_172_8 hz, hh_173 hz, hc_173 hz, hh_174 hz, hc_174 hz, hh_175 hz, hc_175 hz, hh_176 hz, hc_176 hz, hh_177 hz, hc_177 hz, hh_178 hz, hc_178 hz, hh_179 hz, hc_179 hz, hh_180 hz, hc_180 hz, hh_181 hz, hr_181_1 hz, hr_181_2 hz, hr_181_3 hz, hr_181_4 hz, hr_181_5 hz, hr_181_6 hz, hr_181_7 hz, hr_181_8 hz, hh_182 hz, hc_182 hz, hh_183 hz, hc_183 hz, hh_184 hz, hc_184 hz, hh_185 hz, hc_185 hz, hh_186 hz, hc_186 hz, hh_187 hz, hc_187 hz, hh_188 hz, hc_188 hz, hh_189 hz, hc_189 hz, hh_190 hz, hr_190_1 hz, hr_190_2 hz, hr_190_3 hz, hr_190_4 hz, hr_190_5 hz, hr_190_6 hz, hr_190_7 hz, hr_190_8 hz, hh_191 hz, hc_191 hz, hh_192 hz, hc_192 hz, hh_193 hz, hc_193 hz, hh_194 hz, hc_194 hz, hh_195 hz, hc_195 hz, hh_196 hz, hc_196 hz, hh_197 hz, hc_197 hz, hh_198 hz, hc_198 hz, hh_199 hz, hr_199_1 hz, hr_199_2 hz, hr_199_3 hz, hr_199_4 hz, hr_199_5 hz, hr_199_6 hz, hr_199_7 hz, hr_199_8 hz, hh_200 hz, hc_200 hz, hh_201 hz, hc_201 hz, hh_202 hz, hc_202 hz, hh_203 hz, hc_203 hz, hh_204 hz, hc_204 hz, hh_205 hz, hc_205 hz, hh_206 hz, hc_206 hz, hh_207 hz, hc_207 hz, h0, h1]
theorem m_pairs9 (hz : Lay z) {a : Int} (h0 : a ≠ 0) (h1 : a ≠ 1) : EvM TB (d + 3) 276 z v [.inr (.inl 208), .inl a] Q = Q z (up v 208 0 0) (.inl (-1)) := by
  have c : ¬ (0 ≤ a ∧ a ≤ 1) := by omega
  rw [e_ev]
  simp -implicitDefEqProofs only [lay_n, lay_i, lay_a, lay_l, x_nil, x_iconst, x_lconst, x_ldc, x_iload, x_aload, x_lload, x_istore, x_astore, x_lstore, x_iinc, x_iadd, x_isub, x_imul, x_idiv, x_irem, x_ineg, x_iand, x_ior, x_ixor, x_ishl, x_ishr, x_iushr, x_i2b, x_i2c, x_i2l, x_l2i, x_ladd, x_lsub, x_lmul, x_land, x_lor, x_lxor, x_ldiv, x_lrem, x_lneg, x_lshl, x_lushr, x_lcmp, x_max, x_min, x_abs, x_labs, x_lmax, x_dupI, x_dupA, x_dup2, x_popI, x_popA, x_goto, x_eq, x_ne, x_lt, x_ge, x_gt, x_le, x_ceq, x_cne, x_clt, x_cge, x_cgt, x_cle, x_sw, x_getI, x_getR, x_putI, x_putZ, x_putR, x_new, x_newI, x_newC, x_newL, x_anew, x_multi, x_alen, x_iald, x_cald, x_bald, x_lald, x_aald, x_iast, x_cast, x_last, x_aast, x_copy, x_obj, x_call, x_callL, x_iret, x_zret, x_cret, x_bret, x_lret, x_ret, ldI_i, ldA_a, ldL_l, nth_0, nth_s, sto_n0, sto_ns, sto_0, sto_i, sto_a, sto_l0, sto_ls, psh_t, psh_f, spl, splL, sh4, rcv, swK, stoL, clr, reduceIte, Int.reduceEq, Int.reduceLT, Int.reduceLE, Int.reduceAdd, Int.reduceSub, Int.reduceNeg, or_true, true_or, or_false, false_or, false_and, and_false, not_false_eq_true, not_true_eq_false, ne_eq, Nat.reduceDiv, Nat.reduceMod, Nat.reduceAdd, Nat.reduceMul, Nat.reduceBEq, Int.reduceToNat, Int.toNat_natCast, Nat.reduceEqDiff, Nat.reduceLT, Nat.reduceLeDiff, beq_self_eq_true, beq_iff_eq, true_and, and_true, Bool.false_eq_true, ite_self, Int.reduceTMod, Int.reduceTDiv, List.tail_cons, List.cons_append, List.nil_append, Nat.zero_add, g_276_0, g_276_17, g_276_27, hh_208 hz, hr_208_1 hz, hr_208_2 hz, hr_208_4 hz, hr_208_7 hz, hr_208_8 hz, hr_208_9 hz, hr_208_15 hz, hr_208_16 hz, hr_208_17 hz, hr_208_18 hz, hr_208_19 hz, hr_208_20 hz, hr_208_21 hz, hr_208_22 hz, hr_208_26 hz, hr_208_33 hz, hr_208_35 hz, hr_208_36 hz, hr_208_38 hz, hr_208_39 hz, hr_208_40 hz, hr_208_41 hz, hr_208_42 hz, hr_208_43 hz, hr_208_44 hz, hr_208_45 hz, hr_208_47 hz, hr_208_48 hz, hr_208_49 hz, hr_208_50 hz, hr_208_51 hz, hr_208_52 hz, hr_208_53 hz, hr_208_55 hz, hr_208_57 hz, hr_208_58 hz, hr_208_60 hz, hr_208_62 hz, hr_208_63 hz, hr_208_64 hz, hr_208_68 hz, hh_209 hz, hc_209 hz, hh_210 hz, hc_210 hz, hh_211 hz, hc_211 hz, hh_212 hz, hc_212 hz, hh_213 hz, hc_213 hz, hh_214 hz, hc_214 hz, hh_215 hz, hc_215 hz, hh_216 hz, hc_216 hz, hh_217 hz, hc_217 hz, hh_218 hz, hc_218 hz, hh_219 hz, hc_219 hz, hh_220 hz, hc_220 hz, hh_221 hz, hc_221 hz, hh_222 hz, hc_222 hz, hh_223 hz, hc_223 hz, hh_224 hz, hc_224 hz, hh_225 hz, hc_225 hz, hh_226 hz, hc_226 hz, hh_227 hz, hc_227 hz, hh_228 hz, hc_228 hz, hh_229 hz, hc_229 hz, hh_230 hz, hc_230 hz, hh_231 hz, hc_231 hz, hh_232 hz, hc_232 hz, hh_233 hz, hc_233 hz, hh_234 hz, hc_234 hz, hh_235 hz, hc_235 hz, hh_236 hz, hc_236 hz, hh_237 hz, hc_237 hz, hh_238 hz, hc_238 hz, hh_239 hz, hc_239 hz, hh_240 hz, hc_240 hz, hh_241 hz, hc_241 hz, hh_242 hz, hc_242 hz, hh_243 hz, hc_243 hz, hh_244 hz, hc_244 hz, hh_245 hz, hc_245 hz, hh_246 hz, hc_246 hz, hh_247 hz, hc_247 hz, hh_248 hz, hc_248 hz, hh_249 hz, hc_249 hz, m_isIn, if_neg c]
theorem c_pairs (hz : Lay z) (hI : Inv v) {a : Int} : CallOk 124 276 [.inl a] z v := by
  obtain ⟨r, hr⟩ := hI.wi
  have w1 : ∀ j, j < 8 → wok (r j) ∧ ∀ k, k < 4 → v (61 + j) k = (rk (r j) k : Int) := fun j hj => ⟨(hr j hj).1, (hr j hj).2.2⟩
  by_cases h0 : a = 0
  · subst h0
    unfold CallOk
    refine e_pairs0 (d := 97) hz w1 (fun z1 y p h hr1 c f1 f2 => ⟨⟨_, rfl⟩, hr1, cor_10 c, ?_⟩)
    refine m_asked (d := 95) (r := r) hr1.1 (fun j hj => ⟨(hr j hj).1, by rw [cor_f c (a := 237) (by decide) (by decide)]; exact (hr j hj).2.1⟩) rfl (fun y' p' h' c' g1 g2 => ⟨rfl, ?_, Inv_cor (Inv_cor hI c) c', (cor_10 c').trans (cor_10 c)⟩)
    have e : ∀ s, s < 4 → p' s = p s := fun s hs => Nat.le_antisymm (g2 p h f1 s hs) (f2 p' h' g1 s hs)
    unfold pRow
    rw [e 0 (by decide), e 1 (by decide), e 2 (by decide), e 3 (by decide)]
  · by_cases h1 : a = 1
    · subst h1
      exact call_cc hI (r := (@cnt (stOk r) (stOd r) 256 : Int)) (fun Q q => e_pairs1 (d := 97) (r := r) hz (fun j hj => (w1 j hj).2) q) (fun z' y Q h c q => m_sways (d := 95) (r := r) h (fun j hj => ⟨(hr j hj).1, by rw [cor_f c (a := 237) (by decide) (by decide)]; exact (hr j hj).2.1⟩) rfl q)
    · exact call_cc hI (r := -1) (fun Q q => Eq.mpr (e_pairs9 (d := 97) hz h0 h1) (q _ _ (rom_rf hz) (cor_rf v))) (fun z' y Q h c q => Eq.mpr (m_pairs9 (d := 97) h h0 h1) (q _ cor_told))
end PA
