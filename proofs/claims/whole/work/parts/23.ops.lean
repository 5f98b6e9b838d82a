/-! fill, the marks, change, hand, manner -/
def flF (f : Nat → Int32) (n : Nat) (c : Int32) : Nat → Int32 := fun j => if j < n then c else f j
theorem flF_0 (f : Nat → Int32) (c : Int32) : flF f 0 c = f := by funext j; simp [flF]
theorem flF_s (f : Nat → Int32) (n : Nat) (c : Int32) : va_up (flF f n c) n c = flF f (n + 1) c := by
  funext j
  unfold va_up flF
  by_cases h : j = n
  · subst h; simp
  · by_cases h2 : j < n
    · simp [h, h2, Nat.lt_succ_of_lt h2]
    · simp [h, h2, show ¬ j < n + 1 by omega]
theorem xA_wFe {X : XW} {a : Nat} {f : Nat → Int32} : xA (wF X a f) a = f := by rw [xA_wF', if_pos rfl]
theorem xA_wFn {X : XW} {a b : Nat} {f : Nat → Int32} (h : b ≠ a) : xA (wF X a f) b = xA X b := by rw [xA_wF', if_neg h]
theorem f_fill {X : XW} {a n : Nat} {c : Int32} (h : ar X a 21 n) (hn : n ≤ 1000) : fJ7_fill_53178 a c X = some (wF X a (flF (xA X a) n c)) := by
  have e0 : aE X a 1 = some (nI n) := by unfold aE; rw [if_pos h.1, h.2]; rfl
  have e1 : wF X a (flF (xA X a) 0 c) = X := by rw [flF_0, wF_self]
  unfold fJ7_fill_53178
  rw [e0, sb]
  have hl := iter2 (b := fun rec => fJ7_fill_53178_l5_b rec a c (nI n)) (z := fun _ _ => none) (s1 := nI) (sX := fun k => wF X a (flF (xA X a) k c)) (N := n) (res := wF X a (flF (xA X a) n c))
    (fun k hk rec => by
      unfold fJ7_fill_53178_l5_b
      have hk2 : ar (wF X a (flF (xA X a) k c)) a 21 n := h.mv (tr1 rfl)
      rw [if_neg (nI_ge hk (by omega)), uI_of hk2.1 hk2.2 hk (by omega), sb, xA_wFe, wF_wF, flF_s, nI_1])
    (fun rec => by
      unfold fJ7_fill_53178_l5_b
      rw [if_pos (nI_le (Nat.le_refl n) (by omega))]) (n := FU) (FUlt (by omega))
  simp only [e1] at hl
  show (fJ7_fill_53178_l5 a c (nI n) FU 0 X >>= fun r3 => some r3) = _
  rw [show fJ7_fill_53178_l5 a c (nI n) FU 0 X = some (wF X a (flF (xA X a) n c)) from hl, sb]
def clM (X : XW) (q : Nat) : Nat → XW
  | 0 => X
  | k + 1 => wF (clM X q k) (q + 7 + k) (flF (xA (clM X q k) (q + 7 + k)) 80 (-1))
theorem clM_st (X : XW) (q : Nat) : ∀ k, xst4 (clM X q k) = xst4 X
  | 0 => rfl
  | k + 1 => clM_st X q k
theorem clM_I (X : XW) (q : Nat) : ∀ k, xI (clM X q k) = xI X
  | 0 => rfl
  | k + 1 => clM_I X q k
theorem clM_L (X : XW) (q : Nat) : ∀ k, xL (clM X q k) = xL X
  | 0 => rfl
  | k + 1 => clM_L X q k
theorem clM_A (X : XW) (q a : Nat) : ∀ k, xA (clM X q k) a = if q + 7 ≤ a ∧ a < q + 7 + k then flF (xA X a) 80 (-1) else xA X a
  | 0 => by rw [if_neg (by omega)]; rfl
  | k + 1 => by
    show xA (wF (clM X q k) (q + 7 + k) (flF (xA (clM X q k) (q + 7 + k)) 80 (-1))) a = _
    rw [xA_wF', clM_A X q a k]
    by_cases h : a = q + 7 + k
    · subst h
      rw [if_pos rfl, if_pos (by omega), clM_A X q _ k, if_neg (by omega)]
    · rw [if_neg h]
      by_cases h2 : q + 7 ≤ a ∧ a < q + 7 + k
      · rw [if_pos h2, if_pos (by omega)]
      · rw [if_neg h2, if_neg (by omega)]
theorem f_clear {X : XW} {q : Nat} (L : LRd X q) : fX4_clearMarks q X = some (clM X q 3) := by
  have hl := iter2 (b := fun rec => fX4_clearMarks_l2_b rec q) (z := fun _ _ => none) (s1 := nI) (sX := clM X q) (N := 3) (res := clM X q 3)
    (fun k hk rec => by
      have L1 : LRd (clM X q k) q := L.mv (tr1 (clM_st X q k))
      obtain ⟨l1, l2, l3, l4, l5, l6, l7, l8, l9⟩ := L1
      unfold fX4_clearMarks_l2_b
      rw [if_neg (show ¬ (3 : Int32) ≤ nI k from nI_ge (b := 3) hk (by decide)), gR_of l1 (l2 5 (by decide)), sb, aQ_of l8.1 l8.2 hk (by decide) (l9 k hk).1, sb, f_fill (l9 k hk).2 (by decide), sb, nI_1]
      rfl)
    (fun rec => by
      unfold fX4_clearMarks_l2_b
      rw [if_pos (show (3 : Int32) ≤ nI 3 by decide)]) (n := FU) (FUlt (by decide))
  unfold fX4_clearMarks
  rw [show fX4_clearMarks_l2 q FU 0 X = some (clM X q 3) from hl, sb]
section SmallC2
variable {X : XW} {v : Nat}
theorem f_change_j {q k : Nat} {n s b nw co : Int32} (L : LC X v) (LQ : LRd X q) (hk : k < 16) (h1 : nw = 0 ∨ nw = 1) (h2 : co = 0 ∨ co = 1) : fX9_change_j52 v (nI k) n s b nw co q X = some (1, wFs (putW X q k n s b nw co) v) := by
  have L2 : LC (putW X q k n s b nw co) v := L.mv (tr1 rfl)
  unfold fX9_change_j52
  rw [gK_of' LQ.1, sb, f_putWord LQ hk h1 h2, sb, gK_of' L2.1, sb, f_forget L2, sb]
theorem f_change_t (L : LC X v) {hd w k : Nat} {n s b nw co : Int32} (hh : xI X v 2 = nI hd) (hl : hd < 4) (hw : xI X (cR v hd) 6 = nI w) (hw2 : w ≤ 16) (hk : k < w) (h : wordOk n s b) (h1 : nw = 0 ∨ nw = 1) (h2 : co = 0 ∨ co = 1) :
    fX9_change v (nI k) n s b nw co X = some (1, wFs (putW (if xA X (cR v hd + 1) k = n then X else clM X (cR v hd) 3) (cR v hd) k n s b nw co) v) := by
  have L0 := L
  obtain ⟨l1, l2, l3, l4, l5, l6, l7, l8, l9, l10, l11, l12, l13, l14, l15, l16, l17, l18, l19⟩ := L
  obtain ⟨lq1, lq2⟩ := l10 hd hl
  generalize hq : cR v hd = q at *
  unfold fX9_change
  rw [gR_of l1 l2, sb, gI_of l1, sb, hh, aQ_of l8.1 l8.2 hl (by decide) lq1, sb, if_neg (nI_pos (by omega)), gI_of lq2.1, sb, hw, if_neg (nI_ge hk (by omega)), f_isWord_t X h, sb]
  dsimp only
  rw [if_neg (by decide), gR_of lq2.1 (lq2.2.1 0 (by decide)), sb, aI_of lq2.2.2.1.1 lq2.2.2.1.2 (show k < 16 by omega) (by decide), sb]
  by_cases he : xA X (q + 1) k = n
  · rw [if_pos he, if_pos he, f_change_j L0 lq2 (by omega) h1 h2]
  · rw [if_neg he, if_neg he, gK_of' lq2.1, sb, f_clear lq2, sb, f_change_j (L0.mv (tr1 (clM_st X q 3))) (lq2.mv (tr1 (clM_st X q 3))) (by omega) h1 h2]
theorem f_change_f (L : LC X v) {hd w : Nat} {k n s b nw co : Int32} (hh : xI X v 2 = nI hd) (hl : hd < 4) (hw : xI X (cR v hd) 6 = nI w) (h : k < 0 ∨ nI w ≤ k ∨ ¬ wordOk n s b) : fX9_change v k n s b nw co X = some (0, X) := by
  obtain ⟨l1, l2, l3, l4, l5, l6, l7, l8, l9, l10, l11, l12, l13, l14, l15, l16, l17, l18, l19⟩ := L
  obtain ⟨lq1, lq2⟩ := l10 hd hl
  unfold fX9_change
  rw [gR_of l1 l2, sb, gI_of l1, sb, hh, aQ_of l8.1 l8.2 hl (by decide) lq1, sb]
  by_cases h1 : k < 0
  · rw [if_pos h1]
  · rw [if_neg h1, gI_of lq2.1, sb, hw]
    by_cases h2 : nI w ≤ k
    · rw [if_pos h2]
    · rw [if_neg h2, f_isWord_f X ((h.resolve_left h1).resolve_left h2), sb]
      rw [if_pos rfl]
def markOk (what : Nat) (x : Int32) : Prop := x = -1 ∨ bw x (xsv 0 what) (xsv 1 what) = 1
theorem f_hand_j {q i what : Nat} {x : Int32} (L : LC X v) (LQ : LRd X q) (hi : i < 80) (hw : what < 3) : fX9_hand_j59 v (nI i) (nI what) x q X = some (1, wFs (wF X (q + 7 + what) (va_up (xA X (q + 7 + what)) i x)) v) := by
  have L2 : LC (wF X (q + 7 + what) (va_up (xA X (q + 7 + what)) i x)) v := L.mv (tr1 rfl)
  obtain ⟨l1, l2, l3, l4, l5, l6, l7, l8, l9⟩ := LQ
  unfold fX9_hand_j59
  rw [gR_of l1 (l2 5 (by decide)), sb, aQ_of l8.1 l8.2 hw (by decide) (l9 what hw).1, sb, uI_of (l9 what hw).2.1 (l9 what hw).2.2 hi (by decide), sb, gK_of' L2.1, sb, f_forget L2, sb]
theorem sA_of {n i : Nat} (hi : i < 3) : sA n (nI i) = some (xsv n i) := by
  unfold sA
  rw [if_pos (in_nI hi (by decide)), nI_clamp (by omega)]
theorem bw01 (n a b : Int32) : bw n a b = 0 ∨ bw n a b = 1 := by
  unfold bw
  split
  · exact Or.inl rfl
  · split
    · exact Or.inl rfl
    · exact Or.inr rfl
theorem f_hand_t (L : LC X v) {hd N i what : Nat} {x : Int32} (hh : xI X v 2 = nI hd) (hl : hd < 4) (hN : xI X (cR v hd) 7 = nI N) (hN2 : N ≤ 80) (hi : i < N) (hw : what < 3) (hx : markOk what x) :
    fX9_hand v (nI i) (nI what) x X = some (1, wFs (wF X (cR v hd + 7 + what) (va_up (xA X (cR v hd + 7 + what)) i x)) v) := by
  have L0 := L
  obtain ⟨l1, l2, l3, l4, l5, l6, l7, l8, l9, l10, l11, l12, l13, l14, l15, l16, l17, l18, l19⟩ := L
  obtain ⟨lq1, lq2⟩ := l10 hd hl
  unfold fX9_hand
  rw [gR_of l1 l2, sb, gI_of l1, sb, hh, aQ_of l8.1 l8.2 hl (by decide) lq1, sb, if_neg (nI_pos (by omega)), gI_of lq2.1, sb, hN, if_neg (nI_ge hi (by omega)), if_neg (nI_pos (by omega)), if_pos (show nI what < (3 : Int32) from nI_lt (b := 3) hw (by decide))]
  by_cases h1 : x = -1
  · rw [if_pos h1, f_hand_j L0 lq2 (by omega) hw]
  · rw [if_neg h1, sA_of hw, sb, sA_of hw, sb, f_isWithin, sb]
    have h2 := hx.resolve_left h1
    simp only [h2]
    rw [if_neg (by decide), f_hand_j L0 lq2 (by omega) hw]
theorem f_hand_f (L : LC X v) {hd N : Nat} {i what x : Int32} (hh : xI X v 2 = nI hd) (hl : hd < 4) (hN : xI X (cR v hd) 7 = nI N) (h : i < 0 ∨ nI N ≤ i ∨ what < 0 ∨ ¬ what < 3 ∨ ∃ w : Nat, w < 3 ∧ what = nI w ∧ ¬ markOk w x) : fX9_hand v i what x X = some (0, X) := by
  obtain ⟨l1, l2, l3, l4, l5, l6, l7, l8, l9, l10, l11, l12, l13, l14, l15, l16, l17, l18, l19⟩ := L
  obtain ⟨lq1, lq2⟩ := l10 hd hl
  unfold fX9_hand
  rw [gR_of l1 l2, sb, gI_of l1, sb, hh, aQ_of l8.1 l8.2 hl (by decide) lq1, sb]
  by_cases h1 : i < 0
  · rw [if_pos h1]
  rw [if_neg h1, gI_of lq2.1, sb, hN]
  by_cases h2 : nI N ≤ i
  · rw [if_pos h2]
  rw [if_neg h2]
  by_cases h3 : what < 0
  · rw [if_pos h3]
  rw [if_neg h3]
  by_cases h4 : what < 3
  · rw [if_pos h4]
    obtain ⟨w, hw, rfl, hm⟩ := (((h.resolve_left h1).resolve_left h2).resolve_left h3).resolve_left (fun q => q h4)
    have h5 : ¬ x = -1 := fun q => hm (Or.inl q)
    have h6 : bw x (xsv 0 w) (xsv 1 w) = 0 := (bw01 _ _ _).resolve_right (fun q => hm (Or.inr q))
    rw [if_neg h5, sA_of hw, sb, sA_of hw, sb, f_isWithin, sb]
    simp only [h6]
    rw [if_pos trivial]
  · rw [if_neg h4]
def mannerOk (m lo hi sl : Int32) : Prop := ¬ m < 0 ∧ ¬ 4 ≤ m ∧ ¬ lo < 0 ∧ ¬ hi < lo ∧ ¬ 99 < hi ∧ bw sl 1 99 = 1
theorem f_manner_t (L : LC X v) {m : Nat} {lo hi sl : Int32} (hm : m < 4) (h : mannerOk (nI m) lo hi sl) : fX9_manner v (nI m) lo hi sl X = some (1, wFs (wI (wI (wI (wI X v 4 (nI m)) (cM v m) 1 lo) (cM v m) 2 hi) (cM v m) 3 sl) v) := by
  have L0 := L
  obtain ⟨h1, h2, h3, h4, h5, h6⟩ := h
  have La : LC (wI X v 4 (nI m)) v := L0.mv (tr1 rfl)
  have Lb : LC (wI (wI X v 4 (nI m)) (cM v m) 1 lo) v := L0.mv (tr1 rfl)
  have Lc : LC (wI (wI (wI X v 4 (nI m)) (cM v m) 1 lo) (cM v m) 2 hi) v := L0.mv (tr1 rfl)
  have Ld : LC (wI (wI (wI (wI X v 4 (nI m)) (cM v m) 1 lo) (cM v m) 2 hi) (cM v m) 3 sl) v := L0.mv (tr1 rfl)
  unfold fX9_manner
  rw [if_neg h1, if_neg h2, if_neg h3, if_neg h4, if_neg h5, f_isWithin, sb]
  simp only [h6]
  rw [if_neg (by decide), pI_of L.1, sb]
  rw [gR_of La.1 La.2.2.1, sb, aQ_of La.2.2.2.2.2.2.2.2.1.1 La.2.2.2.2.2.2.2.2.1.2 hm (by decide) (La.2.2.2.2.2.2.2.2.2.2.1 m hm).1, sb, pI_of (La.2.2.2.2.2.2.2.2.2.2.1 m hm).2, sb]
  rw [gR_of Lb.1 Lb.2.2.1, sb, aQ_of Lb.2.2.2.2.2.2.2.2.1.1 Lb.2.2.2.2.2.2.2.2.1.2 hm (by decide) (Lb.2.2.2.2.2.2.2.2.2.2.1 m hm).1, sb, pI_of (Lb.2.2.2.2.2.2.2.2.2.2.1 m hm).2, sb]
  rw [gR_of Lc.1 Lc.2.2.1, sb, aQ_of Lc.2.2.2.2.2.2.2.2.1.1 Lc.2.2.2.2.2.2.2.2.1.2 hm (by decide) (Lc.2.2.2.2.2.2.2.2.2.2.1 m hm).1, sb, pI_of (Lc.2.2.2.2.2.2.2.2.2.2.1 m hm).2, sb]
  rw [gK_of' Ld.1, sb, f_forget Ld, sb]
theorem f_manner_f {m lo hi sl : Int32} (h : ¬ mannerOk m lo hi sl) : fX9_manner v m lo hi sl X = some (0, X) := by
  unfold fX9_manner
  by_cases h1 : m < 0
  · rw [if_pos h1]
  by_cases h2 : 4 ≤ m
  · rw [if_neg h1, if_pos h2]
  by_cases h3 : lo < 0
  · rw [if_neg h1, if_neg h2, if_pos h3]
  by_cases h4 : hi < lo
  · rw [if_neg h1, if_neg h2, if_neg h3, if_pos h4]
  by_cases h5 : 99 < hi
  · rw [if_neg h1, if_neg h2, if_neg h3, if_neg h4, if_pos h5]
  rw [if_neg h1, if_neg h2, if_neg h3, if_neg h4, if_neg h5, f_isWithin, sb]
  have h6 : bw sl 1 99 = 0 := (bw01 _ _ _).resolve_right (fun q => h ⟨h1, h2, h3, h4, h5, q⟩)
  simp only [h6]
  rw [if_pos trivial]
end SmallC2
