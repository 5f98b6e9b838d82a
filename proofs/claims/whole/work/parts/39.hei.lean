/-! MARKS, SPAN, SLOPE: what they make -/
def inH (x : Int32) : Prop := ∃ n : Nat, n ≤ 99 ∧ x = nI n
theorem wi_in {x : Int32} {lo hi : Nat} (h : lo ≤ hi) (h2 : hi ≤ 99) : inH (wi x (nI lo) (nI hi)) := by
  unfold wi
  by_cases h1 : nI lo ≤ x
  · rw [if_pos h1]
    by_cases h3 : x ≤ nI hi
    · rw [if_pos h3]
      have h1' := Int32.le_iff_toInt_le.mp h1
      rw [nI_toInt (by omega)] at h1'
      have hx : ¬ x < 0 := fun q => by
        have := Int32.lt_iff_toInt_lt.mp q
        rw [show (0 : Int32).toInt = 0 by decide] at this
        omega
      obtain ⟨j, hj, rfl⟩ := nI_of hx
      have := (nI_leI hj (by omega)).mp h3
      exact ⟨j, by omega, rfl⟩
    · rw [if_neg h3]
      exact ⟨hi, h2, rfl⟩
  · rw [if_neg h1]
    exact ⟨lo, by omega, rfl⟩
theorem subT {a b : Nat} (ha : a < 2 ^ 30) (hb : b < 2 ^ 30) : (nI a - nI b).toInt = (a : Int) - b := by
  rw [Int32.toInt_sub, nI_toInt (by omega), nI_toInt (by omega)]
  simp only [Int.bmod]
  split <;> omega
theorem addT {a b : Nat} (ha : a < 2 ^ 30) (hb : b < 2 ^ 30) : (nI a + nI b).toInt = (a : Int) + b := by
  rw [nI_add, nI_toInt (by omega)]
  omega
theorem near_le {a b : Nat} (ha : a ≤ 99) (hb : b ≤ 99) : nI a - nI b ≤ nI a + nI b := by
  rw [Int32.le_iff_toInt_le, subT (by omega) (by omega), addT (by omega) (by omega)]
  omega
theorem near_in {x y : Int32} {sl : Nat} (hx : inH x) (hy : inH y) (hs : sl ≤ 99) : inH (wi x (y - nI sl) (y + nI sl)) := by
  obtain ⟨a, ha, rfl⟩ := hx
  obtain ⟨b, hb, rfl⟩ := hy
  unfold wi
  by_cases h1 : nI b - nI sl ≤ nI a
  · rw [if_pos h1]
    by_cases h2 : nI a ≤ nI b + nI sl
    · rw [if_pos h2]
      exact ⟨a, ha, rfl⟩
    · rw [if_neg h2]
      have h2' : ¬ (nI a).toInt ≤ (nI b + nI sl).toInt := fun q => h2 (Int32.le_iff_toInt_le.mpr q)
      rw [addT (by omega) (by omega), nI_toInt (by omega)] at h2'
      exact ⟨b + sl, by omega, nI_add _ _⟩
  · rw [if_neg h1]
    have h1' : ¬ (nI b - nI sl).toInt ≤ (nI a).toInt := fun q => h1 (Int32.le_iff_toInt_le.mpr q)
    rw [subT (by omega) (by omega), nI_toInt (by omega)] at h1'
    exact ⟨b - sl, by omega, nI_subI (by omega)⟩
def gm (d : Rd) (lo hi : Nat) (g : Nat → Nat → Int32) (i w : Nat) : Int32 := if dM d w i = -1 then (if w = 1 then wi (g i w) (nI lo) (nI hi) else g i w) else dM d w i
def fwd (d : Rd) (sl : Nat) (h : Nat → Int32) : Nat → Int32
  | 0 => h 0
  | i + 1 => if dM d 1 (i + 1) = -1 then wi (h (i + 1)) (fwd d sl h i - nI sl) (fwd d sl h i + nI sl) else h (i + 1)
def bk (d : Rd) (sl n : Nat) (h : Nat → Int32) : Nat → Int32
  | 0 => h (n - 1)
  | k + 1 => if dM d 1 (n - 1 - (k + 1)) = -1 then wi (h (n - 1 - (k + 1))) (bk d sl n h k - nI sl) (bk d sl n h k + nI sl) else h (n - 1 - (k + 1))
def hF (d : Rd) (sl n : Nat) (h : Nat → Int32) (i : Nat) : Int32 := bk d sl n (fwd d sl h) (n - 1 - i)
theorem gm_in {d : Rd} {lo hi : Nat} {g : Nat → Nat → Int32} {i : Nat} (W : WRd d) (h : lo ≤ hi) (h2 : hi ≤ 99) (hi8 : i < 80) : inH (gm d lo hi g i 1) := by
  unfold gm
  by_cases hm : dM d 1 i = -1
  · rw [if_pos hm, if_pos rfl]
    exact wi_in h h2
  · rw [if_neg hm]
    exact (W.2.2.2.1 1 i (by decide) hi8).resolve_left hm
theorem fwd_in {d : Rd} {sl n : Nat} {h : Nat → Int32} (hs : sl ≤ 99) (hh : ∀ i, i < n → inH (h i)) : ∀ i, i < n → inH (fwd d sl h i)
  | 0, hi => hh 0 hi
  | i + 1, hi => by
    show inH (if dM d 1 (i + 1) = -1 then wi (h (i + 1)) (fwd d sl h i - nI sl) (fwd d sl h i + nI sl) else h (i + 1))
    split
    · exact near_in (hh _ hi) (fwd_in hs hh i (by omega)) hs
    · exact hh _ hi
theorem bk_in {d : Rd} {sl n : Nat} {h : Nat → Int32} (hs : sl ≤ 99) (hh : ∀ i, i < n → inH (h i)) : ∀ k, k < n → inH (bk d sl n h k)
  | 0, hk => hh _ (by omega)
  | k + 1, hk => by
    show inH (if dM d 1 (n - 1 - (k + 1)) = -1 then wi (h (n - 1 - (k + 1))) (bk d sl n h k - nI sl) (bk d sl n h k + nI sl) else h (n - 1 - (k + 1)))
    split
    · exact near_in (hh _ (by omega)) (bk_in hs hh k (by omega)) hs
    · exact hh _ (by omega)
theorem hF_in {d : Rd} {sl n : Nat} {h : Nat → Int32} (hs : sl ≤ 99) (hh : ∀ i, i < n → inH (h i)) {i : Nat} (hi : i < n) : inH (hF d sl n h i) := bk_in hs (fwd_in hs hh) _ (by omega)
/-- do all neighbours keep the slope, up to the k-th -/
def ft (sl : Nat) (h : Nat → Int32) : Nat → Int32
  | 0 => 1
  | k + 1 => b01 (¬ ft sl h k = 0 ∧ ¬ nI sl < iAb (h (k + 1) - h k))
def mkF (d : Rd) (w : Nat) (f : Nat → Int32) (k : Nat) : Nat → Int32 := fun i => if i < k ∧ ¬ dM d w i = -1 then dM d w i else f i
theorem mkF_0 (d : Rd) (w : Nat) (f : Nat → Int32) : mkF d w f 0 = f := by
  funext i
  unfold mkF
  rw [if_neg (fun q => absurd q.1 (Nat.not_lt_zero _))]
theorem mkF_y {d : Rd} {w : Nat} {f : Nat → Int32} {k : Nat} (h : ¬ dM d w k = -1) : va_up (mkF d w f k) k (dM d w k) = mkF d w f (k + 1) := by
  funext i
  unfold mkF
  by_cases e : i = k
  · subst e
    rw [upE, if_pos ⟨by omega, h⟩]
  · rw [upN e]
    by_cases q : i < k ∧ ¬ dM d w i = -1
    · rw [if_pos q, if_pos ⟨by omega, q.2⟩]
    · rw [if_neg q, if_neg (fun z => q ⟨by omega, z.2⟩)]
theorem mkF_n {d : Rd} {w : Nat} {f : Nat → Int32} {k : Nat} (h : dM d w k = -1) : mkF d w f (k + 1) = mkF d w f k := by
  funext i
  unfold mkF
  by_cases q : i < k ∧ ¬ dM d w i = -1
  · rw [if_pos q, if_pos ⟨by omega, q.2⟩]
  · rw [if_neg q, if_neg (fun z => q ⟨by
      by_cases e : i = k
      · exact absurd (e ▸ h) z.2
      · omega, z.2⟩)]
def spF (d : Rd) (lo hi : Nat) (f : Nat → Int32) (k : Nat) : Nat → Int32 := fun i => if i < k ∧ dM d 1 i = -1 then wi (f i) (nI lo) (nI hi) else f i
theorem spF_0 (d : Rd) (lo hi : Nat) (f : Nat → Int32) : spF d lo hi f 0 = f := by
  funext i
  unfold spF
  rw [if_neg (fun q => absurd q.1 (Nat.not_lt_zero _))]
theorem spF_y {d : Rd} {lo hi : Nat} {f : Nat → Int32} {k : Nat} (h : dM d 1 k = -1) : va_up (spF d lo hi f k) k (wi (f k) (nI lo) (nI hi)) = spF d lo hi f (k + 1) := by
  funext i
  unfold spF
  by_cases e : i = k
  · subst e
    rw [upE, if_pos ⟨by omega, h⟩]
  · rw [upN e]
    by_cases q : i < k ∧ dM d 1 i = -1
    · rw [if_pos q, if_pos ⟨by omega, q.2⟩]
    · rw [if_neg q, if_neg (fun z => q ⟨by omega, z.2⟩)]
theorem spF_n {d : Rd} {lo hi : Nat} {f : Nat → Int32} {k : Nat} (h : ¬ dM d 1 k = -1) : spF d lo hi f (k + 1) = spF d lo hi f k := by
  funext i
  unfold spF
  by_cases q : i < k ∧ dM d 1 i = -1
  · rw [if_pos q, if_pos ⟨by omega, q.2⟩]
  · rw [if_neg q, if_neg (fun z => q ⟨by
      by_cases e : i = k
      · exact absurd z.2 (e ▸ h)
      · omega, z.2⟩)]
theorem spF_k {d : Rd} {lo hi : Nat} {f : Nat → Int32} {k : Nat} : spF d lo hi f k k = f k := if_neg (fun q => absurd q.1 (Nat.lt_irrefl _))
/-- the first so many places from a, the others from b -/
def mx (a b : Nat → Int32) (k : Nat) : Nat → Int32 := fun j => if j < k then a j else b j
theorem mx_s {a b : Nat → Int32} {k : Nat} : va_up (mx a b k) k (a k) = mx a b (k + 1) := by
  funext j
  unfold mx
  by_cases e : j = k
  · subst e
    rw [upE, if_pos (by omega)]
  · rw [upN e]
    by_cases q : j < k
    · rw [if_pos q, if_pos (by omega)]
    · rw [if_neg q, if_neg (by omega)]
theorem mx_n {a b : Nat → Int32} {k : Nat} (h : a k = b k) : mx a b (k + 1) = mx a b k := by
  rw [← mx_s, h]
  funext j
  by_cases e : j = k
  · subst e
    rw [upE]
    exact (if_neg (Nat.lt_irrefl _)).symm
  · rw [upN e]
/-- the last so many places below n from a -/
def my (a b : Nat → Int32) (n k : Nat) : Nat → Int32 := fun j => if n - k ≤ j ∧ j < n then a j else b j
theorem my_s {a b : Nat → Int32} {n k : Nat} (h : k < n) : va_up (my a b n k) (n - (k + 1)) (a (n - (k + 1))) = my a b n (k + 1) := by
  funext j
  unfold my
  by_cases e : j = n - (k + 1)
  · subst e
    rw [upE, if_pos (by omega)]
  · rw [upN e]
    by_cases q : n - k ≤ j ∧ j < n
    · rw [if_pos q, if_pos (by omega)]
    · rw [if_neg q, if_neg (by omega)]
theorem my_n {a b : Nat → Int32} {n k : Nat} (h : k < n) (h2 : a (n - (k + 1)) = b (n - (k + 1))) : my a b n (k + 1) = my a b n k := by
  rw [← my_s h, h2]
  funext j
  by_cases e : j = n - (k + 1)
  · subst e
    rw [upE]
    exact (if_neg (by omega)).symm
  · rw [upN e]
section CHe
variable {X : XW} {s q : Nat} {d : Rd}
theorem f_aM9 (S : LSh X s) (Q : LRd X q) (hq : q + 9 < s ∨ s + 23 < q) (R : CRd X q d) (W : WRd d) (hz : xI X s 3 = nI (dZ d)) {w : Nat} (hw : w < 3) : fX6_applyMarks_l9 s q (nI w) FU 0 X = some (wF X (s + 10 + w) (mkF d w (xA X (s + 10 + w)) (dZ d))) := by
  have W80 := W.z
  have hl := iter2 (b := fun rec => fX6_applyMarks_l9_b rec s q (nI w)) (z := fun _ _ => none) (s1 := nI) (sX := fun k => wF X (s + 10 + w) (mkF d w (xA X (s + 10 + w)) k)) (N := dZ d) (res := wF X (s + 10 + w) (mkF d w (xA X (s + 10 + w)) (dZ d)))
    (fun k hk rec => by
      generalize hY : wF X (s + 10 + w) (mkF d w (xA X (s + 10 + w)) k) = Y
      have F : xfm (SL s) X Y := by rw [← hY]; exact xfm.wF (by unfold SL; omega)
      have S1 := S.mv F
      have Q1 := Q.mv F
      have R1 := (R.mf F (by unfold SL; omega)).2.2.2.2.2 w k hw (by omega)
      have hz1 : xI Y s 3 = nI (dZ d) := by rw [← hY]; exact hz
      unfold fX6_applyMarks_l9_b fX6_applyMarks_j45
      rw [sI S1, sb, hz1, if_neg (nI_ge hk (by omega)), dR5 Q1, sb, dQ Q1 hw, sb, dMA Q1 hw (by omega), sb, R1, nI_1]
      by_cases hm : dM d w k = -1
      · rw [if_pos hm, ← hY, mkF_n hm]
      · rw [if_neg hm, sR1 S1, sb, rwQ S1 (by omega), sb, sb, dQ Q1 hw, sb, dMA Q1 hw (by omega), sb, R1, rwU S1 (by omega) (by omega), sb, ← hY, wF_wF, xA_wFe, mkF_y hm])
    (fun rec => by
      have S1 : LSh (wF X (s + 10 + w) (mkF d w (xA X (s + 10 + w)) (dZ d))) s := S.mv (tr1 rfl)
      unfold fX6_applyMarks_l9_b
      rw [sI S1, sb, xI_wF, hz, if_pos (nI_le (Nat.le_refl _) (by omega))]) (n := FU) (FUlt (by omega))
  simp only [mkF_0, wF_self] at hl
  exact hl
def aM (X : XW) (s : Nat) (d : Rd) : Nat → XW
  | 0 => X
  | w + 1 => wF (aM X s d w) (s + 10 + w) (mkF d w (xA X (s + 10 + w)) (dZ d))
theorem aM_st (X : XW) (s : Nat) (d : Rd) : ∀ w, xst4 (aM X s d w) = xst4 X
  | 0 => rfl
  | w + 1 => aM_st X s d w
theorem aM_I (X : XW) (s : Nat) (d : Rd) : ∀ w, xI (aM X s d w) = xI X
  | 0 => rfl
  | w + 1 => aM_I X s d w
theorem aM_L (X : XW) (s : Nat) (d : Rd) : ∀ w, xL (aM X s d w) = xL X
  | 0 => rfl
  | w + 1 => aM_L X s d w
theorem aM_A (X : XW) (s : Nat) (d : Rd) (a : Nat) : ∀ w, xA (aM X s d w) a = if s + 10 ≤ a ∧ a < s + 10 + w then mkF d (a - s - 10) (xA X a) (dZ d) else xA X a
  | 0 => by rw [if_neg (by omega)]; rfl
  | w + 1 => by
    show xA (wF (aM X s d w) (s + 10 + w) (mkF d w (xA X (s + 10 + w)) (dZ d))) a = _
    rw [xA_wF', aM_A X s d a w]
    by_cases h : a = s + 10 + w
    · subst h
      rw [if_pos rfl, if_pos (by omega), show s + 10 + w - s - 10 = w by omega]
    · rw [if_neg h]
      by_cases h2 : s + 10 ≤ a ∧ a < s + 10 + w
      · rw [if_pos h2, if_pos (by omega)]
      · rw [if_neg h2, if_neg (by omega)]
theorem aM_f (X : XW) (s : Nat) (d : Rd) {w : Nat} (hw : w ≤ 3) : xfm (SL s) X (aM X s d w) := ⟨aM_st X s d w, fun a ha => ⟨by rw [aM_I], by rw [aM_A, if_neg (fun q => ha (by unfold SL; omega))], by rw [aM_L]⟩⟩
theorem f_applyMarks (S : LSh X s) (Q : LRd X q) (hq : q + 9 < s ∨ s + 23 < q) (R : CRd X q d) (W : WRd d) (hz : xI X s 3 = nI (dZ d)) : fX6_applyMarks s q X = some (aM X s d 3) := by
  have hl := iter2 (b := fun rec => fX6_applyMarks_l2_b rec s q) (z := fun _ _ => none) (s1 := nI) (sX := aM X s d) (N := 3) (res := aM X s d 3)
    (fun w hw rec => by
      have F := aM_f X s d (w := w) (by omega)
      have h9 := f_aM9 (S.mv F) (Q.mv F) hq (R.mf F (by unfold SL; omega)) W (by rw [aM_I]; exact hz) hw
      rw [aM_A, if_neg (by omega)] at h9
      unfold fX6_applyMarks_l2_b
      rw [if_neg (show ¬ (3 : Int32) ≤ nI w from nI_ge (b := 3) hw (by decide)), h9, sb, nI_1]
      rfl)
    (fun rec => by
      unfold fX6_applyMarks_l2_b
      rw [if_pos (by decide)]) (n := FU) (FUlt (by decide))
  unfold fX6_applyMarks
  rw [show fX6_applyMarks_l2 s q FU 0 X = some (aM X s d 3) from hl, sb]
end CHe
