/-! the class settles heights and tells lengths -/
theorem wI_wI (X : XW) (a k : Nat) (x y : Int32) : wI (wI X a k x) a k y = wI X a k y := by
  unfold wI
  refine congrArg (fun z => (X.1, X.2.1, z, X.2.2.2)) ?_
  funext b j
  by_cases h : b = a ∧ j = k <;> simp [x2, h]
def LMn (X : XW) (g lo hi sl : Nat) : Prop := xKd X g = 3 ∧ xI X g 1 = nI lo ∧ xI X g 2 = nI hi ∧ xI X g 3 = nI sl
theorem LMn.mf {X X1 : XW} {g lo hi sl : Nat} {S : Nat → Prop} (h : LMn X g lo hi sl) (F : xfm S X X1) (hS : ¬ S g) : LMn X1 g lo hi sl := by
  unfold LMn
  rw [F.kd, (F.2 g hS).1]
  exact h
theorem mx_0 {a b : Nat → Int32} : mx a b 0 = b := by
  funext j
  exact if_neg (Nat.not_lt_zero _)
theorem my_1 {a b : Nat → Int32} {n : Nat} (h : a (n - 1) = b (n - 1)) : my a b n (0 + 1) = b := by
  funext j
  unfold my
  by_cases q : n - (0 + 1) ≤ j ∧ j < n
  · rw [if_pos q, show j = n - 1 by omega, h]
  · rw [if_neg q]
def bA (d : Rd) (sl n : Nat) (f : Nat → Int32) (i : Nat) : Int32 := bk d sl n f (n - 1 - i)
theorem bk_congr {d : Rd} {sl n : Nat} {f g : Nat → Int32} (h : ∀ i, i < n → f i = g i) : ∀ k, k < n → bk d sl n f k = bk d sl n g k
  | 0, hk => h _ (by omega)
  | k + 1, hk => by
    show (if dM d 1 (n - 1 - (k + 1)) = -1 then wi (f (n - 1 - (k + 1))) (bk d sl n f k - nI sl) (bk d sl n f k + nI sl) else f (n - 1 - (k + 1))) = (if dM d 1 (n - 1 - (k + 1)) = -1 then wi (g (n - 1 - (k + 1))) (bk d sl n g k - nI sl) (bk d sl n g k + nI sl) else g (n - 1 - (k + 1)))
    rw [h _ (by omega), bk_congr h k (by omega)]
theorem fwd_congr {d : Rd} {sl n : Nat} {f g : Nat → Int32} (h : ∀ i, i < n → f i = g i) : ∀ k, k < n → fwd d sl f k = fwd d sl g k
  | 0, hk => h _ (by omega)
  | k + 1, hk => by
    show (if dM d 1 (k + 1) = -1 then wi (f (k + 1)) (fwd d sl f k - nI sl) (fwd d sl f k + nI sl) else f (k + 1)) = (if dM d 1 (k + 1) = -1 then wi (g (k + 1)) (fwd d sl g k - nI sl) (fwd d sl g k + nI sl) else g (k + 1))
    rw [h _ (by omega), fwd_congr h k (by omega)]
theorem hF_congr {d : Rd} {sl n : Nat} {f g : Nat → Int32} (h : ∀ i, i < n → f i = g i) {i : Nat} (hi : i < n) : hF d sl n f i = hF d sl n g i := bk_congr (fun j hj => fwd_congr h j hj) _ (by omega)
theorem ft_congr {sl n : Nat} {f g : Nat → Int32} (h : ∀ i, i < n → f i = g i) : ∀ k, k < n ∨ k = 0 → ft sl f k = ft sl g k
  | 0, _ => rfl
  | k + 1, hk => by
    show b01 (¬ ft sl f k = 0 ∧ ¬ nI sl < iAb (f (k + 1) - f k)) = b01 (¬ ft sl g k = 0 ∧ ¬ nI sl < iAb (g (k + 1) - g k))
    rw [h (k + 1) (by omega), h k (by omega), ft_congr h k (by omega)]
theorem m2m1 {n : Nat} (h : 0 < n) : nI n - 2 = nI (n - 1) + (-1) := by
  obtain ⟨m, rfl⟩ : ∃ m, n = m + 1 := ⟨n - 1, by omega⟩
  rw [Nat.add_sub_cancel, ← nI_1, Int32.sub_eq_add_neg, Int32.add_assoc, show (1 : Int32) + -2 = -1 by decide]
theorem iD_of {x y : Int32} (h : ¬ y = 0) : iD x y = some (x / y) := if_neg h
theorem iM_of {x y : Int32} (h : ¬ y = 0) : iM x y = some (x - x / y * y) := if_neg h
def sm (g : Nat → Int32) : Nat → Int32
  | 0 => 0
  | k + 1 => sm g k + g k
def tq (P Q : Int32) (g : Nat → Int32) (k : Nat) : Int32 := sm g k * P / Q
theorem sm_congr {f g : Nat → Int32} {n : Nat} (h : ∀ i, i < n → f i = g i) : ∀ k, k ≤ n → sm f k = sm g k
  | 0, _ => rfl
  | k + 1, hk => by
    show sm f k + f k = sm g k + g k
    rw [sm_congr h k (by omega), h k (by omega)]
theorem tq_congr {P Q : Int32} {f g : Nat → Int32} {n : Nat} (h : ∀ i, i < n → f i = g i) {k : Nat} (hk : k ≤ n) : tq P Q f k = tq P Q g k := by
  unfold tq
  rw [sm_congr h k hk]
theorem tq_0 (P Q : Int32) (g : Nat → Int32) : tq P Q g 0 = 0 := by
  show (0 : Int32) * P / Q = 0
  rw [Int32.zero_mul, Int32.zero_div]
section CSe
variable {X : XW} {s q g lo hi sl : Nat} {d : Rd}
theorem rwQ0 (h : LSh X s) : aQ X (s + 9) 6 0 = some (s + 10 + 0) := rwQ h (i := 0) (by decide)
theorem rwQ2 (h : LSh X s) : aQ X (s + 9) 6 2 = some (s + 10 + 2) := rwQ h (i := 2) (by decide)
theorem rwQ4 (h : LSh X s) : aQ X (s + 9) 6 4 = some (s + 10 + 4) := rwQ h (i := 4) (by decide)
theorem rwQ9 (h : LSh X s) : aQ X (s + 9) 6 9 = some (s + 10 + 9) := rwQ h (i := 9) (by decide)
theorem rwQ11 (h : LSh X s) : aQ X (s + 9) 6 11 = some (s + 10 + 11) := rwQ h (i := 11) (by decide)
theorem rwQ13 (h : LSh X s) : aQ X (s + 9) 6 13 = some (s + 10 + 13) := rwQ h (i := 13) (by decide)
theorem f_sH18 (S : LSh X s) (Q : LRd X q) (hq : q + 9 < s ∨ s + 23 < q) (hg : s + 23 < g) (M : LMn X g lo hi sl) (hlo : lo ≤ hi) (hhi : hi ≤ 99) (R : CRd X q d) (W : WRd d) (hz : xI X s 3 = nI (dZ d)) : fX6_settleHeights_l18 s g (s + 10 + 1) (q + 7 + 1) FU 0 X = some (wF X (s + 10 + 1) (spF d lo hi (xA X (s + 10 + 1)) (dZ d))) := by
  have W80 := W.z
  have hl := iter2 (b := fun rec => fX6_settleHeights_l18_b rec s g (s + 10 + 1) (q + 7 + 1)) (z := fun _ _ => none) (s1 := nI) (sX := fun k => wF X (s + 10 + 1) (spF d lo hi (xA X (s + 10 + 1)) k)) (N := dZ d) (res := wF X (s + 10 + 1) (spF d lo hi (xA X (s + 10 + 1)) (dZ d)))
    (fun k hk rec => by
      generalize hY : wF X (s + 10 + 1) (spF d lo hi (xA X (s + 10 + 1)) k) = Y
      have F : xfm (SL s) X Y := by rw [← hY]; exact xfm.wF (by unfold SL; omega)
      have S1 := S.mv F
      have Q1 := Q.mv F
      have M1 := M.mf F (by unfold SL; omega)
      have R1 := (R.mf F (by unfold SL; omega)).2.2.2.2.2 1 k (by decide) (by omega)
      have hz1 : xI Y s 3 = nI (dZ d) := by rw [← hY]; exact hz
      have a1 : xA Y (s + 10 + 1) k = xA X (s + 10 + 1) k := by rw [← hY, xA_wFe, spF_k]
      unfold fX6_settleHeights_l18_b fX6_settleHeights_j55
      rw [sI S1, sb, hz1, if_neg (nI_ge hk (by omega)), dMA Q1 (by decide) (by omega), sb, R1, nI_1]
      by_cases hm : dM d 1 k = -1
      · rw [if_pos hm, rwA S1 (by decide) (by omega), sb, a1, gI_of M1.1, sb, gI_of M1.1, sb, M1.2.1, M1.2.2.1]
        unfold fX9_bringWithin
        rw [sb]
        dsimp only
        rw [rwU S1 (by decide) (by omega), sb, bW_wi (nI_le hlo (by omega)), ← hY, wF_wF, xA_wFe, spF_y hm]
      · rw [if_neg hm, ← hY, spF_n hm])
    (fun rec => by
      have S1 : LSh (wF X (s + 10 + 1) (spF d lo hi (xA X (s + 10 + 1)) (dZ d))) s := S.mv (tr1 rfl)
      unfold fX6_settleHeights_l18_b
      rw [sI S1, sb, xI_wF, hz, if_pos (nI_le (Nat.le_refl _) (by omega))]) (n := FU) (FUlt (by omega))
  simp only [spF_0, wF_self] at hl
  exact hl
theorem f_sH64 (S : LSh X s) (Q : LRd X q) (hq : q + 9 < s ∨ s + 23 < q) (hg : s + 23 < g) (M : LMn X g lo hi sl) (hsl : sl ≤ 99) (R : CRd X q d) (W : WRd d) (hz : xI X s 3 = nI (dZ d)) (hh : ∀ i, i < dZ d → inH (xA X (s + 10 + 1) i)) : fX6_settleHeights_l64 s g (s + 10 + 1) (q + 7 + 1) FU 1 X = some (wF X (s + 10 + 1) (mx (fwd d sl (xA X (s + 10 + 1))) (xA X (s + 10 + 1)) (dZ d - 1 + 1))) := by
  have W80 := W.z
  obtain ⟨h, hh0⟩ : ∃ h, h = xA X (s + 10 + 1) := ⟨_, rfl⟩
  rw [← hh0] at hh ⊢
  have hl := iter2 (b := fun rec => fX6_settleHeights_l64_b rec s g (s + 10 + 1) (q + 7 + 1)) (z := fun _ _ => none) (s1 := fun k => nI (k + 1)) (sX := fun k => wF X (s + 10 + 1) (mx (fwd d sl h) h (k + 1))) (N := dZ d - 1) (res := wF X (s + 10 + 1) (mx (fwd d sl h) h (dZ d - 1 + 1)))
    (fun k hk rec => by
      generalize hY : wF X (s + 10 + 1) (mx (fwd d sl h) h (k + 1)) = Y
      have F : xfm (SL s) X Y := by rw [← hY]; exact xfm.wF (by unfold SL; omega)
      have S1 := S.mv F
      have Q1 := Q.mv F
      have M1 := M.mf F (by unfold SL; omega)
      have R1 := (R.mf F (by unfold SL; omega)).2.2.2.2.2 1 (k + 1) (by decide) (by omega)
      have hz1 : xI Y s 3 = nI (dZ d) := by rw [← hY]; exact hz
      have a1 : xA Y (s + 10 + 1) (k + 1) = h (k + 1) := by rw [← hY, xA_wFe]; exact if_neg (Nat.lt_irrefl _)
      have a2 : xA Y (s + 10 + 1) k = fwd d sl h k := by rw [← hY, xA_wFe]; exact if_pos (Nat.lt_succ_self _)
      unfold fX6_settleHeights_l64_b fX6_settleHeights_j103
      rw [sI S1, sb, hz1, if_neg (nI_ge (show k + 1 < dZ d by omega) (by omega)), dMA Q1 (by decide) (by omega), sb, R1, nI_1]
      by_cases hm : dM d 1 (k + 1) = -1
      · have e : wi (h (k + 1)) (fwd d sl h k - nI sl) (fwd d sl h k + nI sl) = fwd d sl h (k + 1) := (if_pos hm).symm
        obtain ⟨b, hb, eb⟩ := fwd_in (d := d) hsl hh k (by omega)
        rw [if_pos hm, rwA S1 (by decide) (by omega), sb, a1, nI_pred, rwA S1 (by decide) (by omega), sb, a2, gI_of M1.1, sb, M1.2.2.2]
        unfold fX6_bringNear fX9_bringWithin
        rw [sb, sb]
        dsimp only
        rw [rwU S1 (by decide) (by omega), sb, bW_wi (by rw [eb]; exact near_le hb hsl), e, ← hY, wF_wF, xA_wFe, mx_s]
      · rw [if_neg hm, ← hY, ← mx_n (show fwd d sl h (k + 1) = h (k + 1) from if_neg hm)])
    (fun rec => by
      have S1 : LSh (wF X (s + 10 + 1) (mx (fwd d sl h) h (dZ d - 1 + 1))) s := S.mv (tr1 rfl)
      unfold fX6_settleHeights_l64_b
      rw [sI S1, sb, xI_wF, hz, if_pos (nI_le (show dZ d ≤ dZ d - 1 + 1 by omega) (by omega))]) (n := FU) (FUlt (by omega))
  have e0 : mx (fwd d sl h) h (0 + 1) = h := (mx_n (a := fwd d sl h) (b := h) (k := 0) rfl).trans mx_0
  simp only [e0] at hl
  rw [hh0, wF_self, ← hh0] at hl
  exact hl
theorem f_sH117 (S : LSh X s) (Q : LRd X q) (hq : q + 9 < s ∨ s + 23 < q) (hg : s + 23 < g) (M : LMn X g lo hi sl) (hsl : sl ≤ 99) (R : CRd X q d) (W : WRd d) (hh : ∀ i, i < dZ d → inH (xA X (s + 10 + 1) i)) : fX6_settleHeights_l117 s g (s + 10 + 1) (q + 7 + 1) FU (nI (dZ d) - 2) X = some (wF X (s + 10 + 1) (my (bA d sl (dZ d) (xA X (s + 10 + 1))) (xA X (s + 10 + 1)) (dZ d) (dZ d - 1 + 1))) := by
  have W80 := W.z
  obtain ⟨h, hh0⟩ : ∃ h, h = xA X (s + 10 + 1) := ⟨_, rfl⟩
  rw [← hh0] at hh ⊢
  generalize hn : dZ d = n at *
  by_cases h0 : n = 0
  · subst h0
    have e : my (bA d sl 0 h) h 0 (0 - 1 + 1) = h := by
      funext j
      exact if_neg (fun q => absurd q.2 (Nat.not_lt_zero _))
    rw [e, hh0, wF_self]
    exact iter2 (b := fun rec => fX6_settleHeights_l117_b rec s g (s + 10 + 1) (q + 7 + 1)) (z := fun _ _ => none) (s1 := fun _ => nI 0 - 2) (sX := fun _ => X) (N := 0) (res := X) (fun k hk => absurd hk (Nat.not_lt_zero _)) (fun rec => by
      unfold fX6_settleHeights_l117_b
      rw [if_pos (by decide)]) (n := FU) (FUlt (by decide))
  · have hl := iter2 (b := fun rec => fX6_settleHeights_l117_b rec s g (s + 10 + 1) (q + 7 + 1)) (z := fun _ _ => none) (s1 := fun k => nI (n - 1 - k) + (-1)) (sX := fun k => wF X (s + 10 + 1) (my (bA d sl n h) h n (k + 1))) (N := n - 1) (res := wF X (s + 10 + 1) (my (bA d sl n h) h n (n - 1 + 1)))
      (fun k hk rec => by
        generalize hY : wF X (s + 10 + 1) (my (bA d sl n h) h n (k + 1)) = Y
        have F : xfm (SL s) X Y := by rw [← hY]; exact xfm.wF (by unfold SL; omega)
        have S1 := S.mv F
        have Q1 := Q.mv F
        have M1 := M.mf F (by unfold SL; omega)
        have e1 : n - 1 - (k + 1) = n - (k + 1 + 1) := by omega
        have R1 := (R.mf F (by unfold SL; omega)).2.2.2.2.2 1 (n - (k + 1 + 1)) (by decide) (by omega)
        have a1 : xA Y (s + 10 + 1) (n - (k + 1 + 1)) = h (n - (k + 1 + 1)) := by rw [← hY, xA_wFe]; exact if_neg (by omega)
        have a2 : xA Y (s + 10 + 1) (n - (k + 1)) = bk d sl n h k := by
          rw [← hY, xA_wFe, show my (bA d sl n h) h n (k + 1) (n - (k + 1)) = bA d sl n h (n - (k + 1)) from if_pos (by omega)]
          unfold bA
          rw [show n - 1 - (n - (k + 1)) = k by omega]
        have e2 : bA d sl n h (n - (k + 1 + 1)) = bk d sl n h (k + 1) := by
          unfold bA
          rw [show n - 1 - (n - (k + 1 + 1)) = k + 1 by omega]
        unfold fX6_settleHeights_l117_b fX6_settleHeights_j152
        rw [nI_m1 (by omega), show n - 1 - k - 1 = n - (k + 1 + 1) by omega, if_neg (nI_pos (by omega)), dMA Q1 (by decide) (by omega), sb, R1, e1]
        by_cases hm : dM d 1 (n - (k + 1 + 1)) = -1
        · have e : wi (h (n - (k + 1 + 1))) (bk d sl n h k - nI sl) (bk d sl n h k + nI sl) = bA d sl n h (n - (k + 1 + 1)) := by
            rw [e2]
            show _ = (if dM d 1 (n - 1 - (k + 1)) = -1 then wi (h (n - 1 - (k + 1))) (bk d sl n h k - nI sl) (bk d sl n h k + nI sl) else h (n - 1 - (k + 1)))
            rw [e1, if_pos hm]
          obtain ⟨b, hb, eb⟩ := bk_in (d := d) hsl hh k (by omega)
          rw [if_pos hm, rwA S1 (by decide) (by omega), sb, a1, nI_1, show n - (k + 1 + 1) + 1 = n - (k + 1) by omega, rwA S1 (by decide) (by omega), sb, a2, gI_of M1.1, sb, M1.2.2.2]
          unfold fX6_bringNear fX9_bringWithin
          rw [sb, sb]
          dsimp only
          rw [rwU S1 (by decide) (by omega), sb, bW_wi (by rw [eb]; exact near_le hb hsl), e, ← hY, wF_wF, xA_wFe, my_s (by omega)]
        · have e : bA d sl n h (n - (k + 1 + 1)) = h (n - (k + 1 + 1)) := by
            rw [e2]
            show (if dM d 1 (n - 1 - (k + 1)) = -1 then wi (h (n - 1 - (k + 1))) (bk d sl n h k - nI sl) (bk d sl n h k + nI sl) else h (n - 1 - (k + 1))) = _
            rw [e1, if_neg hm]
          rw [if_neg hm, ← hY, my_n (by omega) e])
      (fun rec => by
        unfold fX6_settleHeights_l117_b
        rw [Nat.sub_self, if_pos (by decide)]) (n := FU) (FUlt (by omega))
    have e0 : my (bA d sl n h) h n (0 + 1) = h := my_1 (by
      unfold bA
      rw [Nat.sub_self]
      rfl)
    simp only [e0, Nat.sub_zero] at hl
    rw [hh0, wF_self, ← hh0] at hl
    rw [m2m1 (by omega)]
    exact hl
theorem f_sH166 (S : LSh X s) (hg : s + 23 < g) (M : LMn X g lo hi sl) (h80 : dZ d ≤ 80) (hz : xI X s 3 = nI (dZ d)) : fX6_settleHeights_l166 s g (s + 10 + 1) FU 1 (wI X s 4 1) = some (wI X s 4 (ft sl (xA X (s + 10 + 1)) (dZ d - 1))) := by
  have hl := iter2 (b := fun rec => fX6_settleHeights_l166_b rec s g (s + 10 + 1)) (z := fun _ _ => none) (s1 := fun k => nI (k + 1)) (sX := fun k => wI X s 4 (ft sl (xA X (s + 10 + 1)) k)) (N := dZ d - 1) (res := wI X s 4 (ft sl (xA X (s + 10 + 1)) (dZ d - 1)))
    (fun k hk rec => by
      have F : xfm (SL s) X (wI X s 4 (ft sl (xA X (s + 10 + 1)) k)) := xfm.wI (Or.inl rfl)
      have S1 := S.mv F
      have M1 := M.mf F (by unfold SL; omega)
      have hz1 : xI (wI X s 4 (ft sl (xA X (s + 10 + 1)) k)) s 3 = nI (dZ d) := by rw [xI_wI, if_neg (fun e => absurd e.2 (by decide))]; exact hz
      have h4 : xI (wI X s 4 (ft sl (xA X (s + 10 + 1)) k)) s 4 = ft sl (xA X (s + 10 + 1)) k := by rw [xI_wI, if_pos ⟨rfl, rfl⟩]
      have e : ft sl (xA X (s + 10 + 1)) (k + 1) = b01 (¬ ft sl (xA X (s + 10 + 1)) k = 0 ∧ ¬ nI sl < iAb (xA X (s + 10 + 1) (k + 1) - xA X (s + 10 + 1) k)) := rfl
      unfold fX6_settleHeights_l166_b fX6_settleHeights_j208 fX6_settleHeights_j209
      rw [sI S1, sb, hz1, if_neg (nI_ge (show k + 1 < dZ d by omega) (by omega)), sI S1, sb, h4, nI_1]
      by_cases h0 : ft sl (xA X (s + 10 + 1)) k = 0
      · rw [if_pos h0, sZ S1 (Or.inl rfl), sb, wI_wI, e, b01_n (fun q => q.1 h0)]
      · rw [if_neg h0, rwA S1 (by decide) (by omega), sb, nI_pred, rwA S1 (by decide) (by omega), sb, gI_of M1.1, sb, M1.2.2.2, xA_wI]
        by_cases h1 : nI sl < iAb (xA X (s + 10 + 1) (k + 1) - xA X (s + 10 + 1) k)
        · rw [if_pos h1, sZ S1 (Or.inl rfl), sb, wI_wI, e, b01_n (fun q => q.2 h1)]
        · rw [if_neg h1, sZ S1 (Or.inr rfl), sb, wI_wI, e, b01_y ⟨h0, h1⟩])
    (fun rec => by
      have S1 : LSh (wI X s 4 (ft sl (xA X (s + 10 + 1)) (dZ d - 1))) s := S.mv (tr1 rfl)
      unfold fX6_settleHeights_l166_b
      rw [sI S1, sb, show xI (wI X s 4 (ft sl (xA X (s + 10 + 1)) (dZ d - 1))) s 3 = nI (dZ d) from by rw [xI_wI, if_neg (fun e => absurd e.2 (by decide)), hz], if_pos (nI_le (show dZ d ≤ dZ d - 1 + 1 by omega) (by omega))]) (n := FU) (FUlt (by omega))
  exact hl
theorem f_settle (S : LSh X s) (Q : LRd X q) (hq : q + 9 < s ∨ s + 23 < q) (hg : s + 23 < g) (M : LMn X g lo hi sl) (hlo : lo ≤ hi) (hhi : hi ≤ 99) (hsl : sl ≤ 99) (R : CRd X q d) (W : WRd d) (hz : xI X s 3 = nI (dZ d)) (hin : ∀ i, i < dZ d → inH (spF d lo hi (xA X (s + 10 + 1)) (dZ d) i)) :
    ∃ Y, fX6_settleHeights s q g X = some Y ∧ xfm (SL s) X Y ∧ (∀ i, i < dZ d → xA Y (s + 10 + 1) i = hF d sl (dZ d) (spF d lo hi (xA X (s + 10 + 1)) (dZ d)) i) ∧ (∀ w, w ≠ 1 → xA Y (s + 10 + w) = xA X (s + 10 + w)) ∧ xI Y s 2 = xI X s 2 ∧ xI Y s 3 = xI X s 3 ∧ xI Y s 4 = ft sl (hF d sl (dZ d) (spF d lo hi (xA X (s + 10 + 1)) (dZ d))) (dZ d - 1) := by
  have W80 := W.z
  have h18 := f_sH18 S Q hq hg M hlo hhi R W hz
  generalize hh : spF d lo hi (xA X (s + 10 + 1)) (dZ d) = h at *
  generalize hX1 : wF X (s + 10 + 1) h = X1 at h18
  have F1 : xfm (SL s) X X1 := by rw [← hX1]; exact xfm.wF (by unfold SL; omega)
  have A1 : xA X1 (s + 10 + 1) = h := by rw [← hX1, xA_wFe]
  have z1 : xI X1 s 3 = nI (dZ d) := by rw [← hX1]; exact hz
  have h64 := f_sH64 (S.mv F1) (Q.mv F1) hq hg (M.mf F1 (by unfold SL; omega)) hsl (R.mf F1 (by unfold SL; omega)) W z1 (by rw [A1]; exact hin)
  rw [A1] at h64
  generalize hX2 : wF X1 (s + 10 + 1) (mx (fwd d sl h) h (dZ d - 1 + 1)) = X2 at h64
  have F2 : xfm (SL s) X X2 := by rw [← hX2]; exact F1.tr (xfm.wF (by unfold SL; omega))
  have A2 : xA X2 (s + 10 + 1) = mx (fwd d sl h) h (dZ d - 1 + 1) := by rw [← hX2, xA_wFe]
  have A2i : ∀ i, i < dZ d → xA X2 (s + 10 + 1) i = fwd d sl h i := fun i hi => by
    rw [A2]
    exact if_pos (by omega)
  have z2 : xI X2 s 3 = nI (dZ d) := by rw [← hX2]; exact z1
  have S2 := S.mv F2
  have h117 := f_sH117 S2 (Q.mv F2) hq hg (M.mf F2 (by unfold SL; omega)) hsl (R.mf F2 (by unfold SL; omega)) W (fun i hi => by rw [A2i i hi]; exact fwd_in hsl hin i hi)
  generalize hX3 : wF X2 (s + 10 + 1) (my (bA d sl (dZ d) (xA X2 (s + 10 + 1))) (xA X2 (s + 10 + 1)) (dZ d) (dZ d - 1 + 1)) = X3 at h117
  have F3 : xfm (SL s) X X3 := by rw [← hX3]; exact F2.tr (xfm.wF (by unfold SL; omega))
  have A3i : ∀ i, i < dZ d → xA X3 (s + 10 + 1) i = hF d sl (dZ d) h i := fun i hi => by
    rw [← hX3, xA_wFe]
    exact (if_pos (by omega)).trans (bk_congr (fun j hj => A2i j hj) _ (by omega))
  have z3 : xI X3 s 3 = nI (dZ d) := by rw [← hX3]; exact z2
  have S3 := S.mv F3
  have M3 := M.mf F3 (by unfold SL; omega)
  have h166 := f_sH166 S3 hg M3 W80 z3
  refine ⟨_, ?_, F3.tr (xfm.wI (k := 4) (v := ft sl (xA X3 (s + 10 + 1)) (dZ d - 1)) (Or.inl rfl)), fun i hi => ?_, fun w hw => ?_, ?_, ?_, ?_⟩
  · unfold fX6_settleHeights
    rw [sR1 S, sb, rwQ1 S, sb, dR5 Q, sb, dQ1 Q, sb, h18, sb, h64, sb, sI S2, sb, z2, h117, sb, sZ S3 (Or.inr rfl), sb, h166, sb]
  · rw [xA_wI]
    exact A3i i hi
  · rw [xA_wI, ← hX3, xA_wFn (by omega), ← hX2, xA_wFn (by omega), ← hX1, xA_wFn (by omega)]
  · rw [xI_wI, if_neg (fun e => absurd e.2 (by decide)), ← hX3, ← hX2, ← hX1]
    rfl
  · rw [xI_wI, if_neg (fun e => absurd e.2 (by decide)), z3, hz]
  · rw [xI_wI, if_pos ⟨rfl, rfl⟩]
    exact ft_congr A3i _ (by omega)
theorem f_tell (S : LSh X s) (h80 : dZ d ≤ 80) (hz : xI X s 3 = nI (dZ d)) {P Q : Nat} (hQ : 0 < Q) (hQ2 : Q ≤ 100) : fX6_tellLengths s (nI P) (nI Q) X = some (wF X (s + 10 + 13) (mx (fun i => tq (nI P) (nI Q) (xA X (s + 10 + 0)) (i + 1) - tq (nI P) (nI Q) (xA X (s + 10 + 0)) i) (xA X (s + 10 + 13)) (dZ d))) := by
  obtain ⟨h, hh0⟩ : ∃ h, h = xA X (s + 10 + 0) := ⟨_, rfl⟩
  rw [← hh0]
  have hQ0 : ¬ nI Q = 0 := nI_ne0 hQ (by omega)
  have hl := iter4 (b := fun rec => fX6_tellLengths_l13_b rec s (nI P) (nI Q)) (z := fun _ _ _ _ => none) (s1 := fun k => sm h k) (s2 := fun k => tq (nI P) (nI Q) h k) (s3 := nI) (sX := fun k => wF X (s + 10 + 13) (mx (fun i => tq (nI P) (nI Q) h (i + 1) - tq (nI P) (nI Q) h i) (xA X (s + 10 + 13)) k)) (N := dZ d) (res := wF X (s + 10 + 13) (mx (fun i => tq (nI P) (nI Q) h (i + 1) - tq (nI P) (nI Q) h i) (xA X (s + 10 + 13)) (dZ d)))
    (fun k hk rec => by
      generalize hY : wF X (s + 10 + 13) (mx (fun i => tq (nI P) (nI Q) h (i + 1) - tq (nI P) (nI Q) h i) (xA X (s + 10 + 13)) k) = Y
      have F : xfm (SL s) X Y := by rw [← hY]; exact xfm.wF (by unfold SL; omega)
      have S1 := S.mv F
      have hz1 : xI Y s 3 = nI (dZ d) := by rw [← hY]; exact hz
      have a1 : xA Y (s + 10 + 0) k = h k := by rw [← hY, xA_wFn (by omega), hh0]
      unfold fX6_tellLengths_l13_b
      rw [sI S1, sb, hz1, if_neg (nI_ge hk (by omega)), sR1 S1, sb, rwQ0 S1, sb, rwA S1 (by decide) (by omega), sb, a1, iD_of hQ0, sb, sb, rwQ13 S1, sb, rwU S1 (by decide) (by omega), sb, nI_1]
      show rec (sm h (k + 1)) (tq (nI P) (nI Q) h (k + 1)) (nI (k + 1)) (wF Y (s + 10 + 13) (va_up (xA Y (s + 10 + 13)) k (tq (nI P) (nI Q) h (k + 1) - tq (nI P) (nI Q) h k))) = _
      rw [← hY, wF_wF, xA_wFe, ← mx_s])
    (fun rec => by
      have S1 : LSh (wF X (s + 10 + 13) (mx (fun i => tq (nI P) (nI Q) h (i + 1) - tq (nI P) (nI Q) h i) (xA X (s + 10 + 13)) (dZ d))) s := S.mv (tr1 rfl)
      unfold fX6_tellLengths_l13_b
      rw [sI S1, sb, xI_wF, hz, if_pos (nI_le (Nat.le_refl _) (by omega))]) (n := FU) (FUlt (by omega))
  simp only [mx_0, wF_self, tq_0] at hl
  unfold fX6_tellLengths
  rw [if_pos (show (0 : Int32) < nI Q from nI_lt (a := 0) hQ (by omega)), show fX6_tellLengths_l13 s (nI P) (nI Q) FU 0 0 0 X = _ from hl, sb]
end CSe
