/-! ===== what mornings change: the pure picture ===== -/
def udR (R : Nat → Int) (k : Nat) (x : Int) : Nat → Int := fun j => if j = k then x else R j
theorem udR_ap (R : Nat → Int) (k : Nat) (x : Int) (j : Nat) : udR R k x j = if j = k then x else R j := rfl
theorem up_row (v : xV) (a k : Nat) (x : Int) : up v a k x a = udR (v a) k x := by
  funext j
  unfold up udR
  simp
theorem up_off (v : xV) {a b : Nat} (k : Nat) (x : Int) (h : b ≠ a) : up v a k x b = v b := by
  funext j
  unfold up
  rw [if_neg (fun q => h q.1)]
/-- seekers stand within the wood; lines of the book; oaks are there or not; no truffle is less than none -/
def VR (R : Nat → Int) : Prop := (∀ i, i < 10 → (0 ≤ R (197 + i) ∧ R (197 + i) ≤ 7) ∧ (0 ≤ R (207 + i) ∧ R (207 + i) ≤ 7)) ∧ (0 ≤ R 2 ∧ R 2 ≤ 150) ∧ ∀ c, c < 64 → (R (5 + c) = 0 ∨ R (5 + c) = 1) ∧ 0 ≤ R (69 + c)
def celR (R : Nat → Int) (i : Nat) : Nat := (8 * R (207 + i) + R (197 + i)).toNat
theorem cel_lt {R : Nat → Int} (h : VR R) {i : Nat} (hi : i < 10) : celR R i < 64 ∧ 8 * R (207 + i) + R (197 + i) = (celR R i : Int) := by
  obtain ⟨⟨a, b⟩, c, e⟩ := h.1 i hi
  unfold celR
  omega
def noteR (th : Int) (R B : Nat → Int) (what who much : Int) : (Nat → Int) × (Nat → Int) :=
  if th = 0 ∧ R 2 ≠ 150 then (udR R 2 (R 2 + 1), udR (udR (udR (udR B (4 * (R 2).toNat) (R 0)) (4 * (R 2).toNat + 1) what) (4 * (R 2).toNat + 2) who) (4 * (R 2).toNat + 3) much) else (R, B)
def digA (R : Nat → Int) (i : Nat) : Nat → Int := udR (udR R (237 + i) (wr (R (237 + i) + 1))) (133 + celR R i) (wr (R (133 + celR R i) + 1))
def digB (T : (Nat → Int) → Int → Int) (L R : Nat → Int) (i : Nat) : Nat → Int := udR (udR (udR (udR (digA R i) 4 (wr (R 4 + T (sgt L (digA R i) i (celR R i)) 2))) (227 + i) (wr (R (227 + i) + R (69 + celR R i)))) 3 (wr (R 3 + R (69 + celR R i)))) (69 + celR R i) 0
/-- row, book, weight -/
def digR (T : (Nat → Int) → Int → Int) (th : Int) (L R B : Nat → Int) (i : Nat) : ((Nat → Int) × (Nat → Int)) × Int :=
  if R (69 + celR R i) = 0 then (noteR th (digA R i) B 1 (i : Int) (celR R i : Int), 0) else (noteR th (digB T L R i) B 0 (i : Int) (R (69 + celR R i)), R (69 + celR R i))
def dxR (w : Int) : Int := if w = 1 then 1 else if w = 3 then -1 else 0
def dyR (w : Int) : Int := if w = 2 then 1 else if w = 0 then -1 else 0
def nbO (R : Nat → Int) (i : Nat) (w : Int) : Prop := (0 ≤ R (197 + i) + dxR w ∧ R (197 + i) + dxR w ≤ 7) ∧ (0 ≤ R (207 + i) + dyR w ∧ R (207 + i) + dyR w ≤ 7)
def nbD (R : Nat → Int) (i : Nat) (w : Int) : Decidable (nbO R i w) := by unfold nbO; infer_instance
def nbC (R : Nat → Int) (i : Nat) (w : Int) : Nat := (8 * (R (207 + i) + dyR w) + (R (197 + i) + dxR w)).toNat
theorem nbC_lt {R : Nat → Int} {i : Nat} {w : Int} (h : nbO R i w) : nbC R i w < 64 ∧ 8 * (R (207 + i) + dyR w) + (R (197 + i) + dxR w) = (nbC R i w : Int) := by
  obtain ⟨⟨a, b⟩, c, e⟩ := h
  unfold nbC
  omega
def wayS (T : (Nat → Int) → Int → Int) (L R : Nat → Int) (i : Nat) : Nat → Nat → Int → Int → Int
  | 0, _, b, _ => b
  | m + 1, k, b, q => @ite _ (nbO R i k) (nbD R i k) (if b = -1 ∨ q < T (sgt L R i (nbC R i k)) 0 then wayS T L R i m (k + 1) k (T (sgt L R i (nbC R i k)) 0) else wayS T L R i m (k + 1) b q) (wayS T L R i m (k + 1) b q)
def wayR (T : (Nat → Int) → Int → Int) (L R : Nat → Int) (i : Nat) : Int := wayS T L R i 4 0 (-1) 0
theorem wayS_ok (T : (Nat → Int) → Int → Int) (L R : Nat → Int) (i : Nat) : ∀ (m k : Nat) (b q : Int), (b = -1 ∨ ((0 ≤ b ∧ b < 4) ∧ nbO R i b)) → k + m = 4 → (wayS T L R i m k b q = -1 ∧ b = -1 ∧ ∀ j : Nat, k ≤ j → j < 4 → ¬ nbO R i j) ∨ ((0 ≤ wayS T L R i m k b q ∧ wayS T L R i m k b q < 4) ∧ nbO R i (wayS T L R i m k b q))
  | 0, k, b, q, hb, hk => by
    rcases hb with h | h
    · exact .inl ⟨h, h, fun j h1 h2 => absurd h2 (by omega)⟩
    · exact .inr h
  | m + 1, k, b, q, hb, hk => by
    by_cases c : nbO R i k
    · rw [wayS, if_pos c]
      split
      · rcases wayS_ok T L R i m (k + 1) k (T (sgt L R i (nbC R i k)) 0) (.inr ⟨by omega, c⟩) (by omega) with ⟨h1, h2, h3⟩ | h
        · omega
        · exact .inr h
      · rename_i nb
        rcases hb with rfl | hb
        · exact absurd (Or.inl rfl) nb
        · rcases wayS_ok T L R i m (k + 1) b q (.inr hb) (by omega) with ⟨h1, h2, h3⟩ | h
          · omega
          · exact .inr h
    · rw [wayS, if_neg c]
      rcases wayS_ok T L R i m (k + 1) b q hb (by omega) with ⟨h1, h2, h3⟩ | h
      · refine .inl ⟨h1, h2, fun j g1 g2 => ?_⟩
        by_cases e : j = k
        · rw [e]; exact c
        · exact h3 j (by omega) g2
      · exact .inr h
theorem wayR_ok (T : (Nat → Int) → Int → Int) (L : Nat → Int) {R : Nat → Int} (hv : VR R) {i : Nat} (hi : i < 10) : (0 ≤ wayR T L R i ∧ wayR T L R i < 4) ∧ nbO R i (wayR T L R i) := by
  rcases wayS_ok T L R i 4 0 (-1) 0 (.inl rfl) rfl with ⟨h1, h2, h3⟩ | h
  · exfalso
    have x1 := h3 1 (by omega) (by omega)
    have x3 := h3 3 (by omega) (by omega)
    obtain ⟨⟨a, b⟩, c, e⟩ := hv.1 i hi
    by_cases g : R (197 + i) = 7
    · refine x3 ⟨?_, ?_⟩
      · show 0 ≤ R (197 + i) + -1 ∧ R (197 + i) + -1 ≤ 7
        omega
      · show 0 ≤ R (207 + i) + 0 ∧ R (207 + i) + 0 ≤ 7
        omega
    · refine x1 ⟨?_, ?_⟩
      · show 0 ≤ R (197 + i) + 1 ∧ R (197 + i) + 1 ≤ 7
        omega
      · show 0 ≤ R (207 + i) + 0 ∧ R (207 + i) + 0 ≤ 7
        omega
  · exact h
def ledA (T : (Nat → Int) → Int → Int) (L R : Nat → Int) (i : Nat) : Nat → Int := udR (udR R (197 + i) (R (197 + i) + dxR (wayR T L R i))) (207 + i) (R (207 + i) + dyR (wayR T L R i))
def drwR (x : Int) : Int := wr (wr (1664525 * x) + 1013904223)
def drwN (x : Int) : Int := (b32 (fun x y => (x.toUInt32 >>> (y.toUInt32 &&& Int32.toUInt32 31)).toInt32) x 8).tmod 1000
/-- one step: row, book, weight -/
def ledB (T : (Nat → Int) → Int → Int) (th : Int) (L R B : Nat → Int) (i : Nat) (p : Int) : ((Nat → Int) × (Nat → Int)) × Int :=
  if th = 0 then (if 0 < p then (if drwN (drwR (R 1)) < p then digR T th L (udR R 1 (drwR (R 1))) B i else ((udR R 1 (drwR (R 1)), B), 0)) else ((R, B), 0)) else (if 500 ≤ p then digR T th L R B i else ((R, B), 0))
def ledR (T : (Nat → Int) → Int → Int) (th : Int) (L R B : Nat → Int) (i : Nat) : ((Nat → Int) × (Nat → Int)) × Int :=
  ledB T th L (ledA T L R i) B i (T (sgt L (ledA T L R i) i (celR (ledA T L R i) i)) 1)
theorem VR_upd {R : Nat → Int} (h : VR R) {k : Nat} (hk : k ≠ 2 ∧ (k < 5 ∨ (133 ≤ k ∧ k < 197) ∨ 217 ≤ k)) (x : Int) : VR (udR R k x) := by
  obtain ⟨h1, h2, h3⟩ := h
  refine ⟨fun i hi => ?_, ?_, fun c hc => ?_⟩
  · rw [udR_ap, udR_ap, if_neg (by omega), if_neg (by omega)]
    exact h1 i hi
  · rw [udR_ap, if_neg (by omega)]
    exact h2
  · rw [udR_ap, udR_ap, if_neg (by omega), if_neg (by omega)]
    exact h3 c hc
theorem VR_oak {R : Nat → Int} (h : VR R) {k : Nat} (hk : k < 64) {x : Int} (hx : x = 0 ∨ x = 1) : VR (udR R (5 + k) x) := by
  obtain ⟨h1, h2, h3⟩ := h
  refine ⟨fun i hi => ?_, ?_, fun c hc => ?_⟩
  · rw [udR_ap, udR_ap, if_neg (by omega), if_neg (by omega)]
    exact h1 i hi
  · rw [udR_ap, if_neg (by omega)]
    exact h2
  · refine ⟨?_, ?_⟩
    · rw [udR_ap]
      split
      · exact hx
      · exact (h3 c hc).1
    · rw [udR_ap, if_neg (by omega)]
      exact (h3 c hc).2
theorem VR_truf {R : Nat → Int} (h : VR R) {k : Nat} (hk : k < 64) {x : Int} (hx : 0 ≤ x) : VR (udR R (69 + k) x) := by
  obtain ⟨h1, h2, h3⟩ := h
  refine ⟨fun i hi => ?_, ?_, fun c hc => ?_⟩
  · rw [udR_ap, udR_ap, if_neg (by omega), if_neg (by omega)]
    exact h1 i hi
  · rw [udR_ap, if_neg (by omega)]
    exact h2
  · refine ⟨?_, ?_⟩
    · rw [udR_ap, if_neg (by omega)]
      exact (h3 c hc).1
    · rw [udR_ap]
      split
      · exact hx
      · exact (h3 c hc).2
theorem VR_at {R : Nat → Int} {i : Nat} {x y : Int} (h : VR R) (hx : 0 ≤ x ∧ x ≤ 7) (hy : 0 ≤ y ∧ y ≤ 7) (hi : i < 10) : VR (udR (udR R (197 + i) x) (207 + i) y) := by
  obtain ⟨h1, h2, h3⟩ := h
  refine ⟨fun j hj => ?_, ?_, fun c hc => ?_⟩
  · obtain ⟨p, q⟩ := h1 j hj
    constructor
    · rw [udR_ap, if_neg (by omega), udR_ap]
      split
      · exact hx
      · exact p
    · rw [udR_ap]
      split
      · exact hy
      · rw [udR_ap, if_neg (by omega)]
        exact q
  · rw [udR_ap, udR_ap, if_neg (by omega), if_neg (by omega)]
    exact h2
  · rw [udR_ap, udR_ap, udR_ap, udR_ap, if_neg (by omega), if_neg (by omega), if_neg (by omega), if_neg (by omega)]
    exact h3 c hc
theorem VR_line {R : Nat → Int} (h : VR R) {x : Int} (hx : 0 ≤ x ∧ x ≤ 150) : VR (udR R 2 x) := by
  obtain ⟨h1, h2, h3⟩ := h
  refine ⟨fun i hi => ?_, ?_, fun c hc => ?_⟩
  · rw [udR_ap, udR_ap, if_neg (by omega), if_neg (by omega)]
    exact h1 i hi
  · rw [udR_ap, if_pos rfl]
    exact hx
  · rw [udR_ap, udR_ap, if_neg (by omega), if_neg (by omega)]
    exact h3 c hc
theorem VR_note {th : Int} {R B : Nat → Int} {a b c : Int} (h : VR R) : VR (noteR th R B a b c).1 := by
  unfold noteR
  split
  · rename_i q
    have h2 := h.2.1
    exact VR_line h (by omega)
  · exact h
theorem VR_digA {R : Nat → Int} {i : Nat} (hi : i < 10) (h : VR R) : VR (digA R i) :=
  VR_upd (VR_upd h (by omega) _) (by have := (cel_lt h hi).1; omega) _
theorem VR_digB {T : (Nat → Int) → Int → Int} {L R : Nat → Int} {i : Nat} (hi : i < 10) (h : VR R) : VR (digB T L R i) :=
  VR_truf (VR_upd (VR_upd (VR_upd (VR_digA hi h) (by decide) _) (by omega) _) (by decide) _) (cel_lt h hi).1 (by decide)
theorem VR_dig {T : (Nat → Int) → Int → Int} {th : Int} {L R B : Nat → Int} {i : Nat} (hi : i < 10) (h : VR R) : VR (digR T th L R B i).1.1 := by
  unfold digR
  split
  · exact VR_note (VR_digA hi h)
  · exact VR_note (VR_digB hi h)
theorem VR_ledA {T : (Nat → Int) → Int → Int} {L R : Nat → Int} {i : Nat} (hi : i < 10) (h : VR R) : VR (ledA T L R i) := by
  obtain ⟨-, p, q⟩ := wayR_ok T L h hi
  exact VR_at h p q hi
theorem VR_led {T : (Nat → Int) → Int → Int} {th : Int} {L R B : Nat → Int} {i : Nat} (hi : i < 10) (h : VR R) : VR (ledR T th L R B i).1.1 := by
  have h' := VR_ledA (T := T) (L := L) hi h
  unfold ledR ledB
  split
  · split
    · split
      · exact VR_dig hi (VR_upd h' (by decide) _)
      · exact VR_upd h' (by decide) _
    · exact h'
  · split
    · exact VR_dig hi h'
    · exact h'

section WR
variable {s : Nat} {th n : Int} {L R : Nat → Int} {v : xV}
theorem RS_basket (h : RS s th n L R v) (x : Int) : RS s th n L (udR R 3 x) (up v s 10 x) := by
  obtain ⟨r0, r9, r10, r11, r12, r13, r14, t1, t2, t3, t4, t5, t6, t7, t8⟩ := h
  refine ⟨?_, ?_, ?_, ?_, ?_, ?_, ?_, fun c hc => ?_, fun c hc => ?_, fun c hc => ?_, fun c hc => ?_, fun c hc => ?_, fun c hc => ?_, fun c hc => ?_, fun c hc => ?_⟩
  all_goals unfold up
  all_goals (try unfold udR)
  all_goals (first | rw [if_neg (by omega), if_neg (by omega), if_neg (by omega)] | rw [if_neg (by omega), if_neg (by omega)] | rw [if_neg (by omega)] | rw [if_pos (by omega), if_pos (by omega)])
  all_goals (first | assumption | exact t1 c hc | exact t2 c hc | exact t3 c hc | exact t4 c hc | exact t5 c hc | exact t6 c hc | exact t7 c hc | exact t8 c hc)
theorem RS_coins (h : RS s th n L R v) (x : Int) : RS s th n L (udR R 4 x) (up v s 11 x) := by
  obtain ⟨r0, r9, r10, r11, r12, r13, r14, t1, t2, t3, t4, t5, t6, t7, t8⟩ := h
  refine ⟨?_, ?_, ?_, ?_, ?_, ?_, ?_, fun c hc => ?_, fun c hc => ?_, fun c hc => ?_, fun c hc => ?_, fun c hc => ?_, fun c hc => ?_, fun c hc => ?_, fun c hc => ?_⟩
  all_goals unfold up
  all_goals (try unfold udR)
  all_goals (first | rw [if_neg (by omega), if_neg (by omega), if_neg (by omega)] | rw [if_neg (by omega), if_neg (by omega)] | rw [if_neg (by omega)] | rw [if_pos (by omega), if_pos (by omega)])
  all_goals (first | assumption | exact t1 c hc | exact t2 c hc | exact t3 c hc | exact t4 c hc | exact t5 c hc | exact t6 c hc | exact t7 c hc | exact t8 c hc)
theorem RS_morning (h : RS s th n L R v) (x : Int) : RS s th n L (udR R 0 x) (up v s 12 x) := by
  obtain ⟨r0, r9, r10, r11, r12, r13, r14, t1, t2, t3, t4, t5, t6, t7, t8⟩ := h
  refine ⟨?_, ?_, ?_, ?_, ?_, ?_, ?_, fun c hc => ?_, fun c hc => ?_, fun c hc => ?_, fun c hc => ?_, fun c hc => ?_, fun c hc => ?_, fun c hc => ?_, fun c hc => ?_⟩
  all_goals unfold up
  all_goals (try unfold udR)
  all_goals (first | rw [if_neg (by omega), if_neg (by omega), if_neg (by omega)] | rw [if_neg (by omega), if_neg (by omega)] | rw [if_neg (by omega)] | rw [if_pos (by omega), if_pos (by omega)])
  all_goals (first | assumption | exact t1 c hc | exact t2 c hc | exact t3 c hc | exact t4 c hc | exact t5 c hc | exact t6 c hc | exact t7 c hc | exact t8 c hc)
theorem RS_draws (h : RS s th n L R v) (x : Int) : RS s th n L (udR R 1 x) (up v s 13 x) := by
  obtain ⟨r0, r9, r10, r11, r12, r13, r14, t1, t2, t3, t4, t5, t6, t7, t8⟩ := h
  refine ⟨?_, ?_, ?_, ?_, ?_, ?_, ?_, fun c hc => ?_, fun c hc => ?_, fun c hc => ?_, fun c hc => ?_, fun c hc => ?_, fun c hc => ?_, fun c hc => ?_, fun c hc => ?_⟩
  all_goals unfold up
  all_goals (try unfold udR)
  all_goals (first | rw [if_neg (by omega), if_neg (by omega), if_neg (by omega)] | rw [if_neg (by omega), if_neg (by omega)] | rw [if_neg (by omega)] | rw [if_pos (by omega), if_pos (by omega)])
  all_goals (first | assumption | exact t1 c hc | exact t2 c hc | exact t3 c hc | exact t4 c hc | exact t5 c hc | exact t6 c hc | exact t7 c hc | exact t8 c hc)
theorem RS_lines (h : RS s th n L R v) (x : Int) : RS s th n L (udR R 2 x) (up v s 14 x) := by
  obtain ⟨r0, r9, r10, r11, r12, r13, r14, t1, t2, t3, t4, t5, t6, t7, t8⟩ := h
  refine ⟨?_, ?_, ?_, ?_, ?_, ?_, ?_, fun c hc => ?_, fun c hc => ?_, fun c hc => ?_, fun c hc => ?_, fun c hc => ?_, fun c hc => ?_, fun c hc => ?_, fun c hc => ?_⟩
  all_goals unfold up
  all_goals (try unfold udR)
  all_goals (first | rw [if_neg (by omega), if_neg (by omega), if_neg (by omega)] | rw [if_neg (by omega), if_neg (by omega)] | rw [if_neg (by omega)] | rw [if_pos (by omega), if_pos (by omega)])
  all_goals (first | assumption | exact t1 c hc | exact t2 c hc | exact t3 c hc | exact t4 c hc | exact t5 c hc | exact t6 c hc | exact t7 c hc | exact t8 c hc)
theorem RS_oak (h : RS s th n L R v) {k : Nat} (hk : k < 64) (x : Int) : RS s th n L (udR R (5 + k) x) (up v (s + 1) k x) := by
  obtain ⟨r0, r9, r10, r11, r12, r13, r14, t1, t2, t3, t4, t5, t6, t7, t8⟩ := h
  refine ⟨?_, ?_, ?_, ?_, ?_, ?_, ?_, fun c hc => ?_, fun c hc => ?_, fun c hc => ?_, fun c hc => ?_, fun c hc => ?_, fun c hc => ?_, fun c hc => ?_, fun c hc => ?_⟩
  all_goals unfold up
  all_goals (try unfold udR)
  all_goals (first | rw [if_neg (by omega), if_neg (by omega), if_neg (by omega)] | rw [if_neg (by omega), if_neg (by omega)] | rw [if_neg (by omega)] | (by_cases e : c = k; (rw [if_pos (by omega), if_pos (by omega)]); (rw [if_neg (by omega), if_neg (by omega)])))
  all_goals (first | assumption | exact t1 c hc | exact t2 c hc | exact t3 c hc | exact t4 c hc | exact t5 c hc | exact t6 c hc | exact t7 c hc | exact t8 c hc)
theorem RS_truf (h : RS s th n L R v) {k : Nat} (hk : k < 64) (x : Int) : RS s th n L (udR R (69 + k) x) (up v (s + 2) k x) := by
  obtain ⟨r0, r9, r10, r11, r12, r13, r14, t1, t2, t3, t4, t5, t6, t7, t8⟩ := h
  refine ⟨?_, ?_, ?_, ?_, ?_, ?_, ?_, fun c hc => ?_, fun c hc => ?_, fun c hc => ?_, fun c hc => ?_, fun c hc => ?_, fun c hc => ?_, fun c hc => ?_, fun c hc => ?_⟩
  all_goals unfold up
  all_goals (try unfold udR)
  all_goals (first | rw [if_neg (by omega), if_neg (by omega), if_neg (by omega)] | rw [if_neg (by omega), if_neg (by omega)] | rw [if_neg (by omega)] | (by_cases e : c = k; (rw [if_pos (by omega), if_pos (by omega)]); (rw [if_neg (by omega), if_neg (by omega)])))
  all_goals (first | assumption | exact t1 c hc | exact t2 c hc | exact t3 c hc | exact t4 c hc | exact t5 c hc | exact t6 c hc | exact t7 c hc | exact t8 c hc)
theorem RS_dug (h : RS s th n L R v) {k : Nat} (hk : k < 64) (x : Int) : RS s th n L (udR R (133 + k) x) (up v (s + 3) k x) := by
  obtain ⟨r0, r9, r10, r11, r12, r13, r14, t1, t2, t3, t4, t5, t6, t7, t8⟩ := h
  refine ⟨?_, ?_, ?_, ?_, ?_, ?_, ?_, fun c hc => ?_, fun c hc => ?_, fun c hc => ?_, fun c hc => ?_, fun c hc => ?_, fun c hc => ?_, fun c hc => ?_, fun c hc => ?_⟩
  all_goals unfold up
  all_goals (try unfold udR)
  all_goals (first | rw [if_neg (by omega), if_neg (by omega), if_neg (by omega)] | rw [if_neg (by omega), if_neg (by omega)] | rw [if_neg (by omega)] | (by_cases e : c = k; (rw [if_pos (by omega), if_pos (by omega)]); (rw [if_neg (by omega), if_neg (by omega)])))
  all_goals (first | assumption | exact t1 c hc | exact t2 c hc | exact t3 c hc | exact t4 c hc | exact t5 c hc | exact t6 c hc | exact t7 c hc | exact t8 c hc)
theorem RS_sol (h : RS s th n L R v) {k : Nat} (hk : k < 10) (x : Int) : RS s th n L (udR R (217 + k) x) (up v (s + 6) k x) := by
  obtain ⟨r0, r9, r10, r11, r12, r13, r14, t1, t2, t3, t4, t5, t6, t7, t8⟩ := h
  refine ⟨?_, ?_, ?_, ?_, ?_, ?_, ?_, fun c hc => ?_, fun c hc => ?_, fun c hc => ?_, fun c hc => ?_, fun c hc => ?_, fun c hc => ?_, fun c hc => ?_, fun c hc => ?_⟩
  all_goals unfold up
  all_goals (try unfold udR)
  all_goals (first | rw [if_neg (by omega), if_neg (by omega), if_neg (by omega)] | rw [if_neg (by omega), if_neg (by omega)] | rw [if_neg (by omega)] | (by_cases e : c = k; (rw [if_pos (by omega), if_pos (by omega)]); (rw [if_neg (by omega), if_neg (by omega)])))
  all_goals (first | assumption | exact t1 c hc | exact t2 c hc | exact t3 c hc | exact t4 c hc | exact t5 c hc | exact t6 c hc | exact t7 c hc | exact t8 c hc)
theorem RS_fnd (h : RS s th n L R v) {k : Nat} (hk : k < 10) (x : Int) : RS s th n L (udR R (227 + k) x) (up v (s + 7) k x) := by
  obtain ⟨r0, r9, r10, r11, r12, r13, r14, t1, t2, t3, t4, t5, t6, t7, t8⟩ := h
  refine ⟨?_, ?_, ?_, ?_, ?_, ?_, ?_, fun c hc => ?_, fun c hc => ?_, fun c hc => ?_, fun c hc => ?_, fun c hc => ?_, fun c hc => ?_, fun c hc => ?_, fun c hc => ?_⟩
  all_goals unfold up
  all_goals (try unfold udR)
  all_goals (first | rw [if_neg (by omega), if_neg (by omega), if_neg (by omega)] | rw [if_neg (by omega), if_neg (by omega)] | rw [if_neg (by omega)] | (by_cases e : c = k; (rw [if_pos (by omega), if_pos (by omega)]); (rw [if_neg (by omega), if_neg (by omega)])))
  all_goals (first | assumption | exact t1 c hc | exact t2 c hc | exact t3 c hc | exact t4 c hc | exact t5 c hc | exact t6 c hc | exact t7 c hc | exact t8 c hc)
theorem RS_stp (h : RS s th n L R v) {k : Nat} (hk : k < 10) (x : Int) : RS s th n L (udR R (237 + k) x) (up v (s + 8) k x) := by
  obtain ⟨r0, r9, r10, r11, r12, r13, r14, t1, t2, t3, t4, t5, t6, t7, t8⟩ := h
  refine ⟨?_, ?_, ?_, ?_, ?_, ?_, ?_, fun c hc => ?_, fun c hc => ?_, fun c hc => ?_, fun c hc => ?_, fun c hc => ?_, fun c hc => ?_, fun c hc => ?_, fun c hc => ?_⟩
  all_goals unfold up
  all_goals (try unfold udR)
  all_goals (first | rw [if_neg (by omega), if_neg (by omega), if_neg (by omega)] | rw [if_neg (by omega), if_neg (by omega)] | rw [if_neg (by omega)] | (by_cases e : c = k; (rw [if_pos (by omega), if_pos (by omega)]); (rw [if_neg (by omega), if_neg (by omega)])))
  all_goals (first | assumption | exact t1 c hc | exact t2 c hc | exact t3 c hc | exact t4 c hc | exact t5 c hc | exact t6 c hc | exact t7 c hc | exact t8 c hc)
theorem RS_at (h : RS s th n L R v) {k : Nat} (hk : k < 10) (x y : Int) : RS s th n L (udR (udR R (197 + k) x) (207 + k) y) (up v (s + 5) k (8 * y + x)) := by
  obtain ⟨r0, r9, r10, r11, r12, r13, r14, t1, t2, t3, t4, t5, t6, t7, t8⟩ := h
  refine ⟨?_, ?_, ?_, ?_, ?_, ?_, ?_, fun c hc => ?_, fun c hc => ?_, fun c hc => ?_, fun c hc => ?_, fun c hc => ?_, fun c hc => ?_, fun c hc => ?_, fun c hc => ?_⟩
  all_goals unfold up
  all_goals (try unfold udR)
  all_goals (first | (rw [if_neg (by omega), if_neg (by omega), if_neg (by omega)]; done) | rw [if_neg (by omega), if_neg (by omega), if_neg (by omega)] | (by_cases e : c = k; (rw [if_pos (by omega), if_pos (by omega), if_neg (by omega), if_pos (by omega)]); (rw [if_neg (by omega), if_neg (by omega), if_neg (by omega), if_neg (by omega), if_neg (by omega)])) | rw [if_neg (by omega)])
  all_goals (first | assumption | exact t1 c hc | exact t2 c hc | exact t3 c hc | exact t4 c hc | exact t5 c hc | exact t6 c hc | exact t7 c hc | exact t8 c hc)
end WR
