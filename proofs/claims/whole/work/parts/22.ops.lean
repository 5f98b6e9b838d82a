/-! what the small methods do, exactly -/
theorem xKd_wFs {X : XW} {v : Nat} : xKd (wFs X v) = xKd X := rfl
theorem xLn_wFs {X : XW} {v : Nat} : xLn (wFs X v) = xLn X := rfl
theorem tr1 {X X1 : XW} (h : xst4 X1 = xst4 X) : xfm (fun _ => True) X X1 := ⟨h, fun a ha => absurd trivial ha⟩
theorem nar1 {v : Int32} (h : v = 0 ∨ v = 1) : vp_nar .boolean v = v := by rcases h with rfl | rfl <;> decide
def putW (X : XW) (q k : Nat) (n s b nw co : Int32) : XW :=
  wF (wF (wF (wF (wF (wI X q 7 (xI X q 7 + (n - xA X (q + 1) k))) (q + 1) (va_up (xA X (q + 1)) k n)) (q + 2) (va_up (xA X (q + 2)) k s)) (q + 3) (va_up (xA X (q + 3)) k b)) (q + 4) (va_up (xA X (q + 4)) k nw)) (q + 5) (va_up (xA X (q + 5)) k co)
theorem ne_add {q i j : Nat} (h : i ≠ j) : (q + i = q + j) = False := eq_false (by omega)
theorem f_putWord {X : XW} {q k : Nat} {n s b nw co : Int32} (L : LRd X q) (hk : k < 16) (h1 : nw = 0 ∨ nw = 1) (h2 : co = 0 ∨ co = 1) : fX4_putWord q (nI k) n s b nw co X = some (putW X q k n s b nw co) := by
  obtain ⟨l1, l2, l3, l4, l5, l6, l7, l8, l9⟩ := L
  have r0 := l2 0 (by decide)
  have r1 := l2 1 (by decide)
  have r2 := l2 2 (by decide)
  have r3 := l2 3 (by decide)
  have r4 := l2 4 (by decide)
  have c0 : (nI k).toNatClampNeg = k := nI_clamp (by omega)
  have c1 : ¬ (nI k < 0 ∨ 16 ≤ k) := by have := in_nI (n := 16) hk (by decide); rw [c0] at this; exact this
  unfold fX4_putWord putW
  simp only [gI, gR, aI, pI, uI, uZ, xKd_wI, xLn_wI, xR_wI, xKd_wF, xLn_wF, xR_wF, wA_eq, l1, r0, r1, r2, r3, r4, l3.1, l3.2, l4.1, l4.2, l5.1, l5.2, l6.1, l6.2, l7.1, l7.2, c0, c1, sb, if_true, and_true, not_false_eq_true, Nat.reduceAdd, nar1 h1, nar1 h2, Nat.add_zero, true_and, xA_wI, xA_wF', ite_self]
  simp
section SmallC
variable {X : XW} {v : Nat}
theorem f_ideal_t (L : LC X v) {n : Int32} (h : bw n 1 20 = 1) : fX9_ideal v n X = some (1, wFs (wI X v 5 n) v) := by
  unfold fX9_ideal
  have L1 : LC (wI X v 5 n) v := L.mv (tr1 rfl)
  rw [f_isWithin, sb]
  simp only [h]
  rw [if_neg (by decide), pI_of L.1, sb, gK_of' L1.1, sb, f_forget L1, sb]
theorem f_ideal_f {n : Int32} (h : bw n 1 20 = 0) : fX9_ideal v n X = some (0, X) := by
  unfold fX9_ideal
  rw [f_isWithin, sb]
  simp only [h]
  rw [if_pos trivial]
theorem f_speed_t (L : LC X v) {p q : Int32} (h : bw p 1 100 = 1) (h2 : bw q 1 100 = 1) : fX9_speed v p q X = some (1, wFs (wI (wI X v 6 p) v 7 q) v) := by
  unfold fX9_speed
  have L1 : LC (wI X v 6 p) v := L.mv (tr1 rfl)
  have L2 : LC (wI (wI X v 6 p) v 7 q) v := L1.mv (tr1 rfl)
  rw [f_isWithin, sb]
  simp only [h]
  rw [if_neg (by decide), f_isWithin, sb]
  simp only [h2]
  rw [if_neg (by decide), pI_of L.1, sb, pI_of L1.1, sb, gK_of' L2.1, sb, f_forget L2, sb]
theorem f_speed_f {p q : Int32} (h : bw p 1 100 = 0 ∨ bw q 1 100 = 0) : fX9_speed v p q X = some (0, X) := by
  unfold fX9_speed
  rw [f_isWithin, sb]
  by_cases h1 : bw p 1 100 = 0
  · simp only [h1]; rw [if_pos trivial]
  · have h2 := h.resolve_left h1
    simp only
    rw [if_neg h1, f_isWithin, sb]
    simp only [h2]
    rw [if_pos trivial]
theorem f_isReading (L : LC X v) {rc : Nat} (hr : xI X v 1 = nI rc) (n : Int32) : fX9_isReading v n X = some (if n < 0 then 0 else if nI rc ≤ n then 0 else 1, X) := by
  unfold fX9_isReading
  rw [gI_of L.1, sb, hr]
  split
  · rfl
  · split <;> rfl
theorem f_take_t (L : LC X v) {rc k : Nat} (hr : xI X v 1 = nI rc) (hrc : rc < 2 ^ 31) (hk : k < rc) : fX9_take v (nI k) X = some (1, wI X v 2 (nI k)) := by
  unfold fX9_take
  rw [gK_of' L.1, sb, f_isReading L hr, sb, if_neg (nI_pos (by omega)), if_neg (nI_ge hk hrc)]
  dsimp only
  rw [if_neg (by decide), pI_of L.1, sb]
theorem f_take_f (L : LC X v) {rc : Nat} {n : Int32} (hr : xI X v 1 = nI rc) (h : n < 0 ∨ nI rc ≤ n) : fX9_take v n X = some (0, X) := by
  unfold fX9_take
  rw [gK_of' L.1, sb, f_isReading L hr, sb]
  have e : (if n < 0 then (0 : Int32) else if nI rc ≤ n then 0 else 1) = 0 := by
    by_cases h1 : n < 0
    · rw [if_pos h1]
    · rw [if_neg h1, if_pos (h.resolve_left h1)]
  simp only [e]
  rw [if_pos trivial]
/-- the reading in hand -/
theorem f_hand (L : LC X v) {hd : Nat} (hh : xI X v 2 = nI hd) (hl : hd < 4) : (gR X v 9 0 >>= fun q1 => gI X v 9 2 >>= fun v3 => aQ X q1 5 v3) = some (cR v hd) := by
  obtain ⟨l1, l2, l3, l4, l5, l6, l7, l8, l9, l10, l11, l12, l13, l14, l15, l16, l17, l18, l19⟩ := L
  rw [gR_of l1 l2, sb, gI_of l1, sb, hh, aQ_of l8.1 l8.2 hl (by decide) (l10 hd hl).1]
theorem f_tune_t (L : LC X v) {hd : Nat} {t : Int32} (hh : xI X v 2 = nI hd) (hl : hd < 4) (h : bw t 0 3 = 1) : fX9_tune v t X = some (1, wFs (wI X (cR v hd) 8 t) v) := by
  have L0 := L
  obtain ⟨l1, l2, l3, l4, l5, l6, l7, l8, l9, l10, l11, l12, l13, l14, l15, l16, l17, l18, l19⟩ := L
  have L1 : LC (wI X (cR v hd) 8 t) v := L0.mv (tr1 rfl)
  unfold fX9_tune
  rw [f_isWithin, sb]
  simp only [h]
  rw [if_neg (by decide), gR_of l1 l2, sb, gI_of l1, sb, hh, aQ_of l8.1 l8.2 hl (by decide) (l10 hd hl).1, sb, pI_of (l10 hd hl).2.1, sb, gK_of' L1.1, sb, f_forget L1, sb]
theorem f_tune_f {t : Int32} (h : bw t 0 3 = 0) : fX9_tune v t X = some (0, X) := by
  unfold fX9_tune
  rw [f_isWithin, sb]
  simp only [h]
  rw [if_pos trivial]
/-- word: refused -/
theorem f_word_f (L : LC X v) {hd : Nat} {n s b nw co : Int32} (hh : xI X v 2 = nI hd) (hl : hd < 4) (h : 16 ≤ xI X (cR v hd) 6 ∨ ¬ wordOk n s b) : fX9_word v n s b nw co X = some (-1, X) := by
  obtain ⟨l1, l2, l3, l4, l5, l6, l7, l8, l9, l10, l11, l12, l13, l14, l15, l16, l17, l18, l19⟩ := L
  unfold fX9_word
  rw [gR_of l1 l2, sb, gI_of l1, sb, hh, aQ_of l8.1 l8.2 hl (by decide) (l10 hd hl).1, sb, gI_of (l10 hd hl).2.1, sb]
  by_cases h1 : 16 ≤ xI X (cR v hd) 6
  · rw [if_pos h1]
  · rw [if_neg h1, f_isWord_f X (h.resolve_left h1), sb]
    rw [if_pos rfl]
theorem f_word_t (L : LC X v) {hd w : Nat} {n s b nw co : Int32} (hh : xI X v 2 = nI hd) (hl : hd < 4) (hw : xI X (cR v hd) 6 = nI w) (hw2 : w < 16) (h : wordOk n s b) (h1 : nw = 0 ∨ nw = 1) (h2 : co = 0 ∨ co = 1) : fX9_word v n s b nw co X = some (nI (w + 1), wFs (putW (wI X (cR v hd) 6 (nI (w + 1))) (cR v hd) w n s b nw co) v) := by
  have L0 := L
  obtain ⟨l1, l2, l3, l4, l5, l6, l7, l8, l9, l10, l11, l12, l13, l14, l15, l16, l17, l18, l19⟩ := L
  generalize hq : cR v hd = q at *
  have hqv : q ≠ v + 7 ∧ q ≠ v + 31 := by rw [← hq]; unfold cR; omega
  obtain ⟨lq1, lq2⟩ := l10 hd hl
  rw [hq] at lq1 lq2
  have L1 : LC (wI X q 6 (nI (w + 1))) v := L0.mv (tr1 rfl)
  have LQ : LRd (wI X q 6 (nI (w + 1))) q := lq2.mv (tr1 rfl)
  have L2 : LC (putW (wI X q 6 (nI (w + 1))) q w n s b nw co) v := L1.mv (tr1 rfl)
  unfold fX9_word
  rw [gR_of l1 l2, sb, gI_of l1, sb, hh, aQ_of l8.1 l8.2 hl (by decide) lq1, sb, gI_of lq2.1, sb, hw, if_neg (show ¬ (16 : Int32) ≤ nI w from nI_ge (b := 16) (a := w) hw2 (by decide)), f_isWord_t X h, sb]
  dsimp only
  rw [if_neg (by decide)]
  rw [gI_of lq2.1, sb, hw, nI_1, pI_of lq2.1, sb, gI_of LQ.1, sb, gK_of' LQ.1, sb]
  have e : xI (wI X q 6 (nI (w + 1))) q 6 = nI (w + 1) := by rw [xI_wI, if_pos ⟨rfl, rfl⟩]
  rw [e, nI_pred, f_putWord LQ hw2 h1 h2, sb, gK_of' L2.1, sb, f_forget L2, sb]
  have hk : xKd (wFs (putW (wI X q 6 (nI (w + 1))) q w n s b nw co) v) q = 5 := LQ.1
  rw [gI_of hk, sb]
  have e2 : xI (wFs (putW (wI X q 6 (nI (w + 1))) q w n s b nw co) v) q 6 = nI (w + 1) := by
    unfold wFs putW
    simp only [xI_wI, xI_wF]
    simp [hqv.1, hqv.2]
  rw [e2]
end SmallC
