/-! THE REFERENCE'S PHRASES -/
theorem upE (f : Nat → Int32) (i : Nat) (v : Int32) : va_up f i v i = v := by simp [va_up]
theorem upN {f : Nat → Int32} {i j : Nat} {v : Int32} (h : j ≠ i) : va_up f i v j = f j := by simp [va_up, h]
theorem upU (f : Nat → Int32) (i : Nat) (v w : Int32) : va_up (va_up f i v) i w = va_up f i w := by
  funext j
  by_cases h : j = i <;> simp [va_up, h]
theorem nI_1' (a : Nat) : 1 + nI a = nI (1 + a) := nI_add 1 a
section MPhr
variable {X : XW} {o r id : Nat} {d : Rd}
theorem m_costOf (L : LM X o) (hr : r < 4) (R : MRd X o r d) (W : WRd d) (hid : xI X o 38 = nI id) {i j : Nat} (hij : i ≤ j) (hj : j ≤ dW d) (h0 : 0 < j) : fX10_costOf o (nI r) (nI i) (nI j) X = some (nI (sg d id i j), X) := by
  obtain ⟨R1, R2, R3, R4⟩ := R
  have W1 := W.1
  have hl := iter3 (b := fun rec => fX10_costOf_l11_b rec o (nI r) (nI j)) (z := fun _ _ _ => none) (s1 := fun k => nI (ps (dS d) (i + k) - ps (dS d) i)) (s2 := fun k => nI (16 * r + (i + k))) (sX := fun _ => X) (N := j - i) (res := (nI (ps (dS d) j - ps (dS d) i), X))
    (fun k hk rec => by
      have h1 := (R3 (i + k) (by omega)).1
      have e : ps (dS d) (i + k) - ps (dS d) i + dS d (i + k) = ps (dS d) (i + (k + 1)) - ps (dS d) i := by
        have := ps_mono (f := dS d) (show i ≤ i + k by omega)
        show _ = ps (dS d) (i + k) + dS d (i + k) - _
        omega
      unfold fX10_costOf_l11_b
      simp (disch := first | omega | assumption | (simp only [LM_wI, LM_wF]; assumption)) only [gK_M, gI_M, pI_M, rM1, aM1, uM1, rM4, aM4, uM4, rM5, aM5, uM5, rM6, aM6, rM9, aM9, rM11, aM11, uM11, rM12, aM12, uM12, rM13, aM13, uM13, rM14, aM14, uM14, rM15, aM15, uM15, rM16, aM16, uM16, rM17, aM17, uM17, rM18, aM18, uM18, rM19, aM19, uM19, rM20, aM20, uM20, rM23, aM23, uM23, rM24, aM24, uM24, rM25, aM25, uM25, rM26, aM26, uM26, rM27, aM27, uM27, rM30, aM30, uM30, rM31, aM31, uM31, rM32, aM32, uM32, rM33, aM33, uM33, rM34, aM34, uM34, rM35, aM35, uM35, rM36, aM36, uM36, rM37, aM37, uM37, rM41, aM41, uM41, rM43, aM43, uM43, rM44, aM44, uM44, rM45, aM45, uM45, rM46, aM46, uM46, rM48, aM48, uM48, rM49, aM49, uM49, rM50, aM50, uM50, rM51, aM51, uM51, rM52, aM52, uM52, rM53, aM53, uM53, rM54, aM54, uM54, rM56, aM56, uM56, uL_M6, sb, nI_add, nI_mul, nI_1, nI_subI, nI_p1, nI_m1, Lt0, Lt2, Lt3, Lt4, Lt5, Lt8, Lt9, Lt10, Lt16, Lt24, Lt50, Lt80, Lt240, Lt1060, nI_leI, nI_ltI, nI_eq, leT, leF, ltT, ltF, nI_n0, if_true, if_false, not_true_eq_false, not_false_eq_true, xKd_wI, xLn_wI, xR_wI, xA_wI, xL_wI, xQ_wI, xKd_wF, xLn_wF, xR_wF, xI_wF, xL_wF, xQ_wF, h1, e]
      rfl)
    (fun rec => by
      unfold fX10_costOf_l11_b
      rw [show i + (j - i) = j by omega]
      simp (disch := first | omega | assumption | (simp only [LM_wI, LM_wF]; assumption)) only [gK_M, gI_M, pI_M, rM1, aM1, uM1, rM4, aM4, uM4, rM5, aM5, uM5, rM6, aM6, rM9, aM9, rM11, aM11, uM11, rM12, aM12, uM12, rM13, aM13, uM13, rM14, aM14, uM14, rM15, aM15, uM15, rM16, aM16, uM16, rM17, aM17, uM17, rM18, aM18, uM18, rM19, aM19, uM19, rM20, aM20, uM20, rM23, aM23, uM23, rM24, aM24, uM24, rM25, aM25, uM25, rM26, aM26, uM26, rM27, aM27, uM27, rM30, aM30, uM30, rM31, aM31, uM31, rM32, aM32, uM32, rM33, aM33, uM33, rM34, aM34, uM34, rM35, aM35, uM35, rM36, aM36, uM36, rM37, aM37, uM37, rM41, aM41, uM41, rM43, aM43, uM43, rM44, aM44, uM44, rM45, aM45, uM45, rM46, aM46, uM46, rM48, aM48, uM48, rM49, aM49, uM49, rM50, aM50, uM50, rM51, aM51, uM51, rM52, aM52, uM52, rM53, aM53, uM53, rM54, aM54, uM54, rM56, aM56, uM56, uL_M6, sb, nI_add, nI_mul, nI_1, nI_subI, nI_p1, nI_m1, Lt0, Lt2, Lt3, Lt4, Lt5, Lt8, Lt9, Lt10, Lt16, Lt24, Lt50, Lt80, Lt240, Lt1060, nI_leI, nI_ltI, nI_eq, leT, leF, ltT, ltF, nI_n0, if_true, if_false, not_true_eq_false, not_false_eq_true, xKd_wI, xLn_wI, xR_wI, xA_wI, xL_wI, xQ_wI, xKd_wF, xLn_wF, xR_wF, xI_wF, xL_wF, xQ_wF]) (n := FU) (FUlt (by omega))
  simp only [Nat.add_zero, Nat.sub_self] at hl
  unfold fX10_costOf
  simp (disch := first | omega | assumption | (simp only [LM_wI, LM_wF]; assumption)) only [gK_M, gI_M, pI_M, rM1, aM1, uM1, rM4, aM4, uM4, rM5, aM5, uM5, rM6, aM6, rM9, aM9, rM11, aM11, uM11, rM12, aM12, uM12, rM13, aM13, uM13, rM14, aM14, uM14, rM15, aM15, uM15, rM16, aM16, uM16, rM17, aM17, uM17, rM18, aM18, uM18, rM19, aM19, uM19, rM20, aM20, uM20, rM23, aM23, uM23, rM24, aM24, uM24, rM25, aM25, uM25, rM26, aM26, uM26, rM27, aM27, uM27, rM30, aM30, uM30, rM31, aM31, uM31, rM32, aM32, uM32, rM33, aM33, uM33, rM34, aM34, uM34, rM35, aM35, uM35, rM36, aM36, uM36, rM37, aM37, uM37, rM41, aM41, uM41, rM43, aM43, uM43, rM44, aM44, uM44, rM45, aM45, uM45, rM46, aM46, uM46, rM48, aM48, uM48, rM49, aM49, uM49, rM50, aM50, uM50, rM51, aM51, uM51, rM52, aM52, uM52, rM53, aM53, uM53, rM54, aM54, uM54, rM56, aM56, uM56, uL_M6, sb, nI_add, nI_mul, nI_1, nI_subI, nI_p1, nI_m1, Lt0, Lt2, Lt3, Lt4, Lt5, Lt8, Lt9, Lt10, Lt16, Lt24, Lt50, Lt80, Lt240, Lt1060, nI_leI, nI_ltI, nI_eq, leT, leF, ltT, ltF, nI_n0, if_true, if_false, not_true_eq_false, not_false_eq_true, xKd_wI, xLn_wI, xR_wI, xA_wI, xL_wI, xQ_wI, xKd_wF, xLn_wF, xR_wF, xI_wF, xL_wF, xQ_wF]
  rw [show fX10_costOf_l11 o (nI r) (nI j) FU (nI 0) (nI (16 * r + i)) X = _ from hl, sb]
  unfold sg
  by_cases hc : j < dW d
  · have h1 := (R3 (j - 1) (by omega)).2.2.1
    have e : 16 * r + j - 1 = 16 * r + (j - 1) := by omega
    simp (disch := first | omega | assumption | (simp only [LM_wI, LM_wF]; assumption)) only [gK_M, gI_M, pI_M, rM1, aM1, uM1, rM4, aM4, uM4, rM5, aM5, uM5, rM6, aM6, rM9, aM9, rM11, aM11, uM11, rM12, aM12, uM12, rM13, aM13, uM13, rM14, aM14, uM14, rM15, aM15, uM15, rM16, aM16, uM16, rM17, aM17, uM17, rM18, aM18, uM18, rM19, aM19, uM19, rM20, aM20, uM20, rM23, aM23, uM23, rM24, aM24, uM24, rM25, aM25, uM25, rM26, aM26, uM26, rM27, aM27, uM27, rM30, aM30, uM30, rM31, aM31, uM31, rM32, aM32, uM32, rM33, aM33, uM33, rM34, aM34, uM34, rM35, aM35, uM35, rM36, aM36, uM36, rM37, aM37, uM37, rM41, aM41, uM41, rM43, aM43, uM43, rM44, aM44, uM44, rM45, aM45, uM45, rM46, aM46, uM46, rM48, aM48, uM48, rM49, aM49, uM49, rM50, aM50, uM50, rM51, aM51, uM51, rM52, aM52, uM52, rM53, aM53, uM53, rM54, aM54, uM54, rM56, aM56, uM56, uL_M6, sb, nI_add, nI_mul, nI_1, nI_subI, nI_p1, nI_m1, Lt0, Lt2, Lt3, Lt4, Lt5, Lt8, Lt9, Lt10, Lt16, Lt24, Lt50, Lt80, Lt240, Lt1060, nI_leI, nI_ltI, nI_eq, leT, leF, ltT, ltF, nI_n0, if_true, if_false, not_true_eq_false, not_false_eq_true, xKd_wI, xLn_wI, xR_wI, xA_wI, xL_wI, xQ_wI, xKd_wF, xLn_wF, xR_wF, xI_wF, xL_wF, xQ_wF, hid, R1, sq_nI, e, h1, nI_1', if_pos hc]
  · simp (disch := first | omega | assumption | (simp only [LM_wI, LM_wF]; assumption)) only [gK_M, gI_M, pI_M, rM1, aM1, uM1, rM4, aM4, uM4, rM5, aM5, uM5, rM6, aM6, rM9, aM9, rM11, aM11, uM11, rM12, aM12, uM12, rM13, aM13, uM13, rM14, aM14, uM14, rM15, aM15, uM15, rM16, aM16, uM16, rM17, aM17, uM17, rM18, aM18, uM18, rM19, aM19, uM19, rM20, aM20, uM20, rM23, aM23, uM23, rM24, aM24, uM24, rM25, aM25, uM25, rM26, aM26, uM26, rM27, aM27, uM27, rM30, aM30, uM30, rM31, aM31, uM31, rM32, aM32, uM32, rM33, aM33, uM33, rM34, aM34, uM34, rM35, aM35, uM35, rM36, aM36, uM36, rM37, aM37, uM37, rM41, aM41, uM41, rM43, aM43, uM43, rM44, aM44, uM44, rM45, aM45, uM45, rM46, aM46, uM46, rM48, aM48, uM48, rM49, aM49, uM49, rM50, aM50, uM50, rM51, aM51, uM51, rM52, aM52, uM52, rM53, aM53, uM53, rM54, aM54, uM54, rM56, aM56, uM56, uL_M6, sb, nI_add, nI_mul, nI_1, nI_subI, nI_p1, nI_m1, Lt0, Lt2, Lt3, Lt4, Lt5, Lt8, Lt9, Lt10, Lt16, Lt24, Lt50, Lt80, Lt240, Lt1060, nI_leI, nI_ltI, nI_eq, leT, leF, ltT, ltF, nI_n0, if_true, if_false, not_true_eq_false, not_false_eq_true, xKd_wI, xLn_wI, xR_wI, xA_wI, xL_wI, xQ_wI, xKd_wF, xLn_wF, xR_wF, xI_wF, xL_wF, xQ_wF, hid, R1, sq_nI, if_neg hc]
/-- the inner loop: the least over all ends -/
def vb (d : Rd) (id : Nat) (T : Nat → Nat) (i : Nat) : Nat → Int32
  | 0 => -1
  | k + 1 => nI (bs d id T i k).1
theorem m_fP36 (L : LM X o) (hr : r < 4) (R : MRd X o r d) (W : WRd d) (hid : xI X o 38 = nI id) {i : Nat} {T : Nat → Nat} (hi : i < dW d) (hT : ∀ j, i < j → j ≤ dW d → xA X (mA o 41) j = nI (T j)) (hb : ∀ n, n < dW d - i → (bs d id T i n).1 ≤ 104000) (hT2 : ∀ j, T j ≤ 104000) (hs : ∀ j, i < j → j ≤ dW d → sg d id i j ≤ 6500) :
    fX10_findPhrases_l36 o (nI r) (nI i) FU (nI (i + 1)) (wF X (mA o 41) (va_up (xA X (mA o 41)) i (-1))) = some (wF X (mA o 41) (va_up (xA X (mA o 41)) i (nI (bs d id T i (dW d - 1 - i)).1))) := by
  have W1 := W.1
  refine iter2 (b := fun rec => fX10_findPhrases_l36_b rec o (nI r) (nI i)) (z := fun _ _ => none) (s1 := fun k => nI (i + 1 + k)) (sX := fun k => wF X (mA o 41) (va_up (xA X (mA o 41)) i (vb d id T i k))) (N := dW d - i) (res := wF X (mA o 41) (va_up (xA X (mA o 41)) i (nI (bs d id T i (dW d - 1 - i)).1))) ?_ ?_ (n := FU) (FUlt (by omega))
  · intro k hk rec
    generalize hY : wF X (mA o 41) (va_up (xA X (mA o 41)) i (vb d id T i k)) = Y
    have F : mfm o [41] X Y := by rw [← hY]; exact mfm.wF (by decide) (by decide) (by decide)
    have L1 := L.mf F
    have R1 := R.mf F (by decide)
    have hid1 : xI Y o 38 = nI id := by rw [F.I (by decide)]; exact hid
    have hc := m_costOf L1 hr R1 W hid1 (i := i) (j := i + 1 + k) (by omega) (by omega) (by omega)
    have a1 : xA Y (mA o 41) (i + 1 + k) = nI (T (i + 1 + k)) := by rw [← hY, xA_wFe, upN (by omega)]; exact hT _ (by omega) (by omega)
    have a2 : xA Y (mA o 41) i = vb d id T i k := by rw [← hY, xA_wFe, upE]
    have a3 : ∀ w, wF Y (mA o 41) (va_up (xA Y (mA o 41)) i w) = wF X (mA o 41) (va_up (xA X (mA o 41)) i w) := fun w => by rw [← hY, wF_wF, xA_wFe, upU]
    have b1 := hT2 (i + 1 + k)
    have b2 := hs (i + 1 + k) (by omega) (by omega)
    unfold fX10_findPhrases_l36_b fX10_findPhrases_j87 fX10_findPhrases_j98
    simp (disch := first | omega | assumption | (simp only [LM_wI, LM_wF]; assumption)) only [gK_M, gI_M, pI_M, rM1, aM1, uM1, rM4, aM4, uM4, rM5, aM5, uM5, rM6, aM6, rM9, aM9, rM11, aM11, uM11, rM12, aM12, uM12, rM13, aM13, uM13, rM14, aM14, uM14, rM15, aM15, uM15, rM16, aM16, uM16, rM17, aM17, uM17, rM18, aM18, uM18, rM19, aM19, uM19, rM20, aM20, uM20, rM23, aM23, uM23, rM24, aM24, uM24, rM25, aM25, uM25, rM26, aM26, uM26, rM27, aM27, uM27, rM30, aM30, uM30, rM31, aM31, uM31, rM32, aM32, uM32, rM33, aM33, uM33, rM34, aM34, uM34, rM35, aM35, uM35, rM36, aM36, uM36, rM37, aM37, uM37, rM41, aM41, uM41, rM43, aM43, uM43, rM44, aM44, uM44, rM45, aM45, uM45, rM46, aM46, uM46, rM48, aM48, uM48, rM49, aM49, uM49, rM50, aM50, uM50, rM51, aM51, uM51, rM52, aM52, uM52, rM53, aM53, uM53, rM54, aM54, uM54, rM56, aM56, uM56, uL_M6, sb, nI_add, nI_mul, nI_1, nI_subI, nI_p1, nI_m1, Lt0, Lt2, Lt3, Lt4, Lt5, Lt8, Lt9, Lt10, Lt16, Lt24, Lt50, Lt80, Lt240, Lt1060, nI_leI, nI_ltI, nI_eq, leT, leF, ltT, ltF, nI_n0, if_true, if_false, not_true_eq_false, not_false_eq_true, xKd_wI, xLn_wI, xR_wI, xA_wI, xL_wI, xQ_wI, xKd_wF, xLn_wF, xR_wF, xI_wF, xL_wF, xQ_wF, R1.1, hc, a1, a2, a3]
    cases k with
    | zero =>
      show (if (-1 : Int32) < nI 0 then _ else _) = _
      rw [if_pos (by decide)]
      rfl
    | succ k =>
      have b3 := hb k (by omega)
      simp only [vb]
      simp (disch := first | omega | assumption | (simp only [LM_wI, LM_wF]; assumption)) only [gK_M, gI_M, pI_M, rM1, aM1, uM1, rM4, aM4, uM4, rM5, aM5, uM5, rM6, aM6, rM9, aM9, rM11, aM11, uM11, rM12, aM12, uM12, rM13, aM13, uM13, rM14, aM14, uM14, rM15, aM15, uM15, rM16, aM16, uM16, rM17, aM17, uM17, rM18, aM18, uM18, rM19, aM19, uM19, rM20, aM20, uM20, rM23, aM23, uM23, rM24, aM24, uM24, rM25, aM25, uM25, rM26, aM26, uM26, rM27, aM27, uM27, rM30, aM30, uM30, rM31, aM31, uM31, rM32, aM32, uM32, rM33, aM33, uM33, rM34, aM34, uM34, rM35, aM35, uM35, rM36, aM36, uM36, rM37, aM37, uM37, rM41, aM41, uM41, rM43, aM43, uM43, rM44, aM44, uM44, rM45, aM45, uM45, rM46, aM46, uM46, rM48, aM48, uM48, rM49, aM49, uM49, rM50, aM50, uM50, rM51, aM51, uM51, rM52, aM52, uM52, rM53, aM53, uM53, rM54, aM54, uM54, rM56, aM56, uM56, uL_M6, sb, nI_add, nI_mul, nI_1, nI_subI, nI_p1, nI_m1, Lt0, Lt2, Lt3, Lt4, Lt5, Lt8, Lt9, Lt10, Lt16, Lt24, Lt50, Lt80, Lt240, Lt1060, nI_leI, nI_ltI, nI_eq, leT, leF, ltT, ltF, nI_n0, if_true, if_false, not_true_eq_false, not_false_eq_true, xKd_wI, xLn_wI, xR_wI, xA_wI, xL_wI, xQ_wI, xKd_wF, xLn_wF, xR_wF, xI_wF, xL_wF, xQ_wF]
      by_cases hc2 : sg d id i (i + 1 + (k + 1)) + T (i + 1 + (k + 1)) ≤ (bs d id T i k).1
      · have e : bs d id T i (k + 1) = (sg d id i (i + k + 2) + T (i + k + 2), i + k + 2) := if_pos (by rw [show i + k + 2 = i + 1 + (k + 1) by omega]; exact hc2)
        rw [e, show i + k + 2 = i + 1 + (k + 1) by omega]
        by_cases hc3 : (bs d id T i k).1 ≤ sg d id i (i + 1 + (k + 1)) + T (i + 1 + (k + 1))
        · rw [if_pos hc3, show (bs d id T i k).1 = sg d id i (i + 1 + (k + 1)) + T (i + 1 + (k + 1)) by omega]
          rfl
        · rw [if_neg hc3]
          rfl
      · have e : bs d id T i (k + 1) = bs d id T i k := if_neg (by rw [show i + k + 2 = i + 1 + (k + 1) by omega]; exact hc2)
        rw [e, if_pos (by omega)]
        rfl
  · intro rec
    generalize hY : wF X (mA o 41) (va_up (xA X (mA o 41)) i (vb d id T i (dW d - i))) = Y
    have F : mfm o [41] X Y := by rw [← hY]; exact mfm.wF (by decide) (by decide) (by decide)
    have L1 := L.mf F
    have R1 := R.mf F (by decide)
    unfold fX10_findPhrases_l36_b
    simp (disch := first | omega | assumption | (simp only [LM_wI, LM_wF]; assumption)) only [gK_M, gI_M, pI_M, rM1, aM1, uM1, rM4, aM4, uM4, rM5, aM5, uM5, rM6, aM6, rM9, aM9, rM11, aM11, uM11, rM12, aM12, uM12, rM13, aM13, uM13, rM14, aM14, uM14, rM15, aM15, uM15, rM16, aM16, uM16, rM17, aM17, uM17, rM18, aM18, uM18, rM19, aM19, uM19, rM20, aM20, uM20, rM23, aM23, uM23, rM24, aM24, uM24, rM25, aM25, uM25, rM26, aM26, uM26, rM27, aM27, uM27, rM30, aM30, uM30, rM31, aM31, uM31, rM32, aM32, uM32, rM33, aM33, uM33, rM34, aM34, uM34, rM35, aM35, uM35, rM36, aM36, uM36, rM37, aM37, uM37, rM41, aM41, uM41, rM43, aM43, uM43, rM44, aM44, uM44, rM45, aM45, uM45, rM46, aM46, uM46, rM48, aM48, uM48, rM49, aM49, uM49, rM50, aM50, uM50, rM51, aM51, uM51, rM52, aM52, uM52, rM53, aM53, uM53, rM54, aM54, uM54, rM56, aM56, uM56, uL_M6, sb, nI_add, nI_mul, nI_1, nI_subI, nI_p1, nI_m1, Lt0, Lt2, Lt3, Lt4, Lt5, Lt8, Lt9, Lt10, Lt16, Lt24, Lt50, Lt80, Lt240, Lt1060, nI_leI, nI_ltI, nI_eq, leT, leF, ltT, ltF, nI_n0, if_true, if_false, not_true_eq_false, not_false_eq_true, xKd_wI, xLn_wI, xR_wI, xA_wI, xL_wI, xQ_wI, xKd_wF, xLn_wF, xR_wF, xI_wF, xL_wF, xQ_wF, R1.1]
    rw [← hY]
    obtain ⟨n, hn⟩ : ∃ n, dW d - i = n + 1 := ⟨dW d - i - 1, by omega⟩
    rw [hn, show dW d - 1 - i = n by omega]
    rfl
/-- the reference's table: what is known behind k turns -/
theorem m_fP21 (L : LM X o) (hr : r < 4) (R : MRd X o r d) (W : WRd d) (hid : xI X o 38 = nI id) (hid2 : id ≤ 20) (h0 : xA X (mA o 41) (dW d) = 0) : ∃ X1, fX10_findPhrases_l21 o (nI r) FU (nI (dW d) - 1) X = some X1 ∧ mfm o [41] X X1 ∧ ∀ j, j ≤ dW d → xA X1 (mA o 41) j = nI (lC d id j) := by
  have W1 := W.1
  refine iterP2 (b := fun rec => fX10_findPhrases_l21_b rec o (nI r)) (z := fun _ _ => none) (fun m a Y => ∃ k, k ≤ dW d ∧ m = dW d - k ∧ a = nI (dW d - k) - 1 ∧ mfm o [41] X Y ∧ ∀ j, dW d - k ≤ j → j ≤ dW d → xA Y (mA o 41) j = nI (tb d id k j)) (fun X1 => mfm o [41] X X1 ∧ ∀ j, j ≤ dW d → xA X1 (mA o 41) j = nI (lC d id j)) ?_ FU (dW d) _ _ (FUlt (by omega)) ⟨0, Nat.zero_le _, rfl, rfl, mfm.rf, fun j h1 h2 => by rw [show j = dW d by omega]; exact h0⟩
  rintro m a Y ⟨k, hk, rfl, rfl, F, hj⟩
  by_cases hkw : k = dW d
  · subst hkw
    left
    refine ⟨Y, fun rec => ?_, F, fun j hjw => hj j (by omega) hjw⟩
    show fX10_findPhrases_l21_b rec o (nI r) (nI (dW d - dW d) - 1) Y = _
    unfold fX10_findPhrases_l21_b
    rw [Nat.sub_self, if_pos (by decide)]
  · right
    have L1 := L.mf F
    have R1 := R.mf F (by decide)
    have hid1 : xI Y o 38 = nI id := by rw [F.I (by decide)]; exact hid
    have hi : dW d - (k + 1) < dW d := by omega
    have h36 := m_fP36 L1 hr R1 W hid1 (i := dW d - (k + 1)) (T := tb d id k) hi (fun j q1 q2 => hj j (by omega) q2) (fun n hn => bs_bd W hid2 (by omega) (by omega)) (fun j => by have := tb_bd W hid2 k hk j; omega) (fun j q1 q2 => sg_bd W hid2 q2 (by omega))
    rw [show dW d - 1 - (dW d - (k + 1)) = k by omega] at h36
    refine ⟨dW d - (k + 1), nI (dW d - (k + 1)) - 1, wF Y (mA o 41) (va_up (xA Y (mA o 41)) (dW d - (k + 1)) (nI (bs d id (tb d id k) (dW d - (k + 1)) k).1)), by omega, ⟨k + 1, by omega, rfl, rfl, F.tr (mfm.wF (by decide) (by decide) (by decide)), fun j q1 q2 => ?_⟩, fun rec => ?_⟩
    · rw [xA_wFe]
      by_cases q3 : j = dW d - (k + 1)
      · rw [q3, upE, tb_e]
      · rw [upN q3, hj j (by omega) q2]
        exact congrArg nI (if_neg q3).symm
    · show fX10_findPhrases_l21_b rec o (nI r) (nI (dW d - k) - 1) Y = _
      unfold fX10_findPhrases_l21_b
      rw [nI_p1 (by omega), show dW d - k - 1 = dW d - (k + 1) by omega, if_neg (nI_pos (by omega)), rM41 L1, sb, uM41 L1 (by omega), sb, nI_1, h36, sb]
      exact congrArg (fun z => rec z _) (Int32.sub_eq_add_neg ..).symm
theorem m_fP135 (L : LM X o) (hr : r < 4) (R : MRd X o r d) (W : WRd d) (hid : xI X o 38 = nI id) (hid2 : id ≤ 20) (hT : ∀ j, j ≤ dW d → xA X (mA o 41) j = nI (lC d id j)) {i : Nat} (hi : i < dW d) : fX10_findPhrases_l135 o (nI r) (nI i) FU (nI (dW d)) X = some (nI (tO d id i), X) := by
  have W1 := W.1
  obtain ⟨t1, t2, t3, t4⟩ := tO_p d id hi
  refine iter2 (b := fun rec => fX10_findPhrases_l135_b rec o (nI r) (nI i)) (z := fun _ _ => none) (s1 := fun k => nI (dW d - k)) (sX := fun _ => X) (N := dW d - tO d id i) (res := (nI (tO d id i), X)) ?_ ?_ (n := FU) (FUlt (by omega))
  · intro k hk rec
    have hc := m_costOf L hr R W hid (i := i) (j := dW d - k) (by omega) (by omega) (by omega)
    have h1 := hT (dW d - k) (by omega)
    have h2 := hT i (by omega)
    have h3 := t4 (dW d - k) (by omega) (by omega)
    have b1 := lC_bd W hid2 (dW d - k)
    have b2 := lC_bd W hid2 i
    have b3 := sg_bd (i := i) (j := dW d - k) W hid2 (by omega) (by omega)
    unfold fX10_findPhrases_l135_b
    simp (disch := first | omega | assumption | (simp only [LM_wI, LM_wF]; assumption)) only [gK_M, gI_M, pI_M, rM1, aM1, uM1, rM4, aM4, uM4, rM5, aM5, uM5, rM6, aM6, rM9, aM9, rM11, aM11, uM11, rM12, aM12, uM12, rM13, aM13, uM13, rM14, aM14, uM14, rM15, aM15, uM15, rM16, aM16, uM16, rM17, aM17, uM17, rM18, aM18, uM18, rM19, aM19, uM19, rM20, aM20, uM20, rM23, aM23, uM23, rM24, aM24, uM24, rM25, aM25, uM25, rM26, aM26, uM26, rM27, aM27, uM27, rM30, aM30, uM30, rM31, aM31, uM31, rM32, aM32, uM32, rM33, aM33, uM33, rM34, aM34, uM34, rM35, aM35, uM35, rM36, aM36, uM36, rM37, aM37, uM37, rM41, aM41, uM41, rM43, aM43, uM43, rM44, aM44, uM44, rM45, aM45, uM45, rM46, aM46, uM46, rM48, aM48, uM48, rM49, aM49, uM49, rM50, aM50, uM50, rM51, aM51, uM51, rM52, aM52, uM52, rM53, aM53, uM53, rM54, aM54, uM54, rM56, aM56, uM56, uL_M6, sb, nI_add, nI_mul, nI_1, nI_subI, nI_p1, nI_m1, Lt0, Lt2, Lt3, Lt4, Lt5, Lt8, Lt9, Lt10, Lt16, Lt24, Lt50, Lt80, Lt240, Lt1060, nI_leI, nI_ltI, nI_eq, leT, leF, ltT, ltF, nI_n0, if_true, if_false, not_true_eq_false, not_false_eq_true, xKd_wI, xLn_wI, xR_wI, xA_wI, xL_wI, xQ_wI, xKd_wF, xLn_wF, xR_wF, xI_wF, xL_wF, xQ_wF, hc, h1, h2]
    rw [if_neg (by omega), show dW d - k - 1 = dW d - (k + 1) by omega]
  · intro rec
    rw [show dW d - (dW d - tO d id i) = tO d id i by omega]
    have hc := m_costOf L hr R W hid (i := i) (j := tO d id i) (by omega) (by omega) (by omega)
    have h1 := hT (tO d id i) (by omega)
    have h2 := hT i (by omega)
    unfold fX10_findPhrases_l135_b
    simp (disch := first | omega | assumption | (simp only [LM_wI, LM_wF]; assumption)) only [gK_M, gI_M, pI_M, rM1, aM1, uM1, rM4, aM4, uM4, rM5, aM5, uM5, rM6, aM6, rM9, aM9, rM11, aM11, uM11, rM12, aM12, uM12, rM13, aM13, uM13, rM14, aM14, uM14, rM15, aM15, uM15, rM16, aM16, uM16, rM17, aM17, uM17, rM18, aM18, uM18, rM19, aM19, uM19, rM20, aM20, uM20, rM23, aM23, uM23, rM24, aM24, uM24, rM25, aM25, uM25, rM26, aM26, uM26, rM27, aM27, uM27, rM30, aM30, uM30, rM31, aM31, uM31, rM32, aM32, uM32, rM33, aM33, uM33, rM34, aM34, uM34, rM35, aM35, uM35, rM36, aM36, uM36, rM37, aM37, uM37, rM41, aM41, uM41, rM43, aM43, uM43, rM44, aM44, uM44, rM45, aM45, uM45, rM46, aM46, uM46, rM48, aM48, uM48, rM49, aM49, uM49, rM50, aM50, uM50, rM51, aM51, uM51, rM52, aM52, uM52, rM53, aM53, uM53, rM54, aM54, uM54, rM56, aM56, uM56, uL_M6, sb, nI_add, nI_mul, nI_1, nI_subI, nI_p1, nI_m1, Lt0, Lt2, Lt3, Lt4, Lt5, Lt8, Lt9, Lt10, Lt16, Lt24, Lt50, Lt80, Lt240, Lt1060, nI_leI, nI_ltI, nI_eq, leT, leF, ltT, ltF, nI_n0, if_true, if_false, not_true_eq_false, not_false_eq_true, xKd_wI, xLn_wI, xR_wI, xA_wI, xL_wI, xQ_wI, xKd_wF, xLn_wF, xR_wF, xI_wF, xL_wF, xQ_wF, hc, h1, h2, t3]
theorem m_fP204 (L : LM X o) (hr : r < 4) (R : MRd X o r d) (W : WRd d) {i j p : Nat} (hij : i ≤ j) (hj : j ≤ dW d) (hp : p < 16) (hx : xI X o 42 = nI p) : fX10_findPhrases_l204 o (nI r) (nI j) FU (nI (16 * r + i)) (wF X (mA o 45) (va_up (xA X (mA o 45)) p 0)) = some (wF X (mA o 45) (va_up (xA X (mA o 45)) p (nI (ps (dS d) j - ps (dS d) i)))) := by
  have W1 := W.1
  have hl := iter2 (b := fun rec => fX10_findPhrases_l204_b rec o (nI r) (nI j)) (z := fun _ _ => none) (s1 := fun k => nI (16 * r + (i + k))) (sX := fun k => wF X (mA o 45) (va_up (xA X (mA o 45)) p (nI (ps (dS d) (i + k) - ps (dS d) i)))) (N := j - i) (res := wF X (mA o 45) (va_up (xA X (mA o 45)) p (nI (ps (dS d) j - ps (dS d) i))))
    (fun k hk rec => by
      generalize hY : wF X (mA o 45) (va_up (xA X (mA o 45)) p (nI (ps (dS d) (i + k) - ps (dS d) i))) = Y
      have F : mfm o [45] X Y := by rw [← hY]; exact mfm.wF (by decide) (by decide) (by decide)
      have L1 := L.mf F
      have R1 := R.mf F (by decide)
      have h1 := (R1.2.2.1 (i + k) (by omega)).1
      have hx1 : xI Y o 42 = nI p := by rw [F.I (by decide)]; exact hx
      have a2 : xA Y (mA o 45) p = nI (ps (dS d) (i + k) - ps (dS d) i) := by rw [← hY, xA_wFe, upE]
      have a3 : ∀ w, wF Y (mA o 45) (va_up (xA Y (mA o 45)) p w) = wF X (mA o 45) (va_up (xA X (mA o 45)) p w) := fun w => by rw [← hY, wF_wF, xA_wFe, upU]
      have e : ps (dS d) (i + k) - ps (dS d) i + dS d (i + k) = ps (dS d) (i + (k + 1)) - ps (dS d) i := by
        have := ps_mono (f := dS d) (show i ≤ i + k by omega)
        show _ = ps (dS d) (i + k) + dS d (i + k) - _
        omega
      unfold fX10_findPhrases_l204_b
      simp (disch := first | omega | assumption | (simp only [LM_wI, LM_wF]; assumption)) only [gK_M, gI_M, pI_M, rM1, aM1, uM1, rM4, aM4, uM4, rM5, aM5, uM5, rM6, aM6, rM9, aM9, rM11, aM11, uM11, rM12, aM12, uM12, rM13, aM13, uM13, rM14, aM14, uM14, rM15, aM15, uM15, rM16, aM16, uM16, rM17, aM17, uM17, rM18, aM18, uM18, rM19, aM19, uM19, rM20, aM20, uM20, rM23, aM23, uM23, rM24, aM24, uM24, rM25, aM25, uM25, rM26, aM26, uM26, rM27, aM27, uM27, rM30, aM30, uM30, rM31, aM31, uM31, rM32, aM32, uM32, rM33, aM33, uM33, rM34, aM34, uM34, rM35, aM35, uM35, rM36, aM36, uM36, rM37, aM37, uM37, rM41, aM41, uM41, rM43, aM43, uM43, rM44, aM44, uM44, rM45, aM45, uM45, rM46, aM46, uM46, rM48, aM48, uM48, rM49, aM49, uM49, rM50, aM50, uM50, rM51, aM51, uM51, rM52, aM52, uM52, rM53, aM53, uM53, rM54, aM54, uM54, rM56, aM56, uM56, uL_M6, sb, nI_add, nI_mul, nI_1, nI_subI, nI_p1, nI_m1, Lt0, Lt2, Lt3, Lt4, Lt5, Lt8, Lt9, Lt10, Lt16, Lt24, Lt50, Lt80, Lt240, Lt1060, nI_leI, nI_ltI, nI_eq, leT, leF, ltT, ltF, nI_n0, if_true, if_false, not_true_eq_false, not_false_eq_true, xKd_wI, xLn_wI, xR_wI, xA_wI, xL_wI, xQ_wI, xKd_wF, xLn_wF, xR_wF, xI_wF, xL_wF, xQ_wF, h1, hx1, a2, e, a3]
      rfl)
    (fun rec => by
      unfold fX10_findPhrases_l204_b
      rw [show i + (j - i) = j by omega]
      simp (disch := first | omega | assumption | (simp only [LM_wI, LM_wF]; assumption)) only [gK_M, gI_M, pI_M, rM1, aM1, uM1, rM4, aM4, uM4, rM5, aM5, uM5, rM6, aM6, rM9, aM9, rM11, aM11, uM11, rM12, aM12, uM12, rM13, aM13, uM13, rM14, aM14, uM14, rM15, aM15, uM15, rM16, aM16, uM16, rM17, aM17, uM17, rM18, aM18, uM18, rM19, aM19, uM19, rM20, aM20, uM20, rM23, aM23, uM23, rM24, aM24, uM24, rM25, aM25, uM25, rM26, aM26, uM26, rM27, aM27, uM27, rM30, aM30, uM30, rM31, aM31, uM31, rM32, aM32, uM32, rM33, aM33, uM33, rM34, aM34, uM34, rM35, aM35, uM35, rM36, aM36, uM36, rM37, aM37, uM37, rM41, aM41, uM41, rM43, aM43, uM43, rM44, aM44, uM44, rM45, aM45, uM45, rM46, aM46, uM46, rM48, aM48, uM48, rM49, aM49, uM49, rM50, aM50, uM50, rM51, aM51, uM51, rM52, aM52, uM52, rM53, aM53, uM53, rM54, aM54, uM54, rM56, aM56, uM56, uL_M6, sb, nI_add, nI_mul, nI_1, nI_subI, nI_p1, nI_m1, Lt0, Lt2, Lt3, Lt4, Lt5, Lt8, Lt9, Lt10, Lt16, Lt24, Lt50, Lt80, Lt240, Lt1060, nI_leI, nI_ltI, nI_eq, leT, leF, ltT, ltF, nI_n0, if_true, if_false, not_true_eq_false, not_false_eq_true, xKd_wI, xLn_wI, xR_wI, xA_wI, xL_wI, xQ_wI, xKd_wF, xLn_wF, xR_wF, xI_wF, xL_wF, xQ_wF]) (n := FU) (FUlt (by omega))
  simp only [Nat.add_zero, Nat.sub_self] at hl
  exact hl
/-- the reference holds the phrases of d -/
def MPh (X : XW) (o : Nat) (d : Rd) (id : Nat) : Prop := xI X o 42 = nI (pN d id) ∧ (∀ j, j ≤ dW d → xA X (mA o 41) j = nI (lC d id j)) ∧ ∀ k, k < pN d id → xA X (mA o 43) k = nI (fs d id k) ∧ xA X (mA o 44) k = nI (fs d id (k + 1) - fs d id k) ∧ xA X (mA o 45) k = nI (pS d id k)
theorem m_findPhrases (L : LM X o) (hr : r < 4) (R : MRd X o r d) (W : WRd d) (hid : xI X o 38 = nI id) (hid2 : id ≤ 20) : ∃ X1, fX10_findPhrases o (nI r) X = some X1 ∧ mfm o [41, 42, 43, 44, 45] X X1 ∧ MPh X1 o d id := by
  have W1 := W.1
  have F0 : mfm o [41, 42, 43, 44, 45] X (wF X (mA o 41) (va_up (xA X (mA o 41)) (dW d) 0)) := mfm.wF (by decide) (by decide) (by decide)
  have L0 := L.mf F0
  have R0 := R.mf F0 (by decide)
  obtain ⟨Y, hY, FY, hT⟩ := m_fP21 L0 hr R0 W (by rw [F0.I (by decide)]; exact hid) hid2 (by rw [xA_wFe, upE])
  have F1 : mfm o [41, 42, 43, 44, 45] X (wI Y o 42 0) := (F0.tr (FY.wk (by decide))).tr (mfm.wI (by decide))
  have hl : ∃ X1, fX10_findPhrases_l118 o (nI r) FU 0 (wI Y o 42 0) = some X1 ∧ mfm o [41, 42, 43, 44, 45] X X1 ∧ MPh X1 o d id := by
    refine iterP2 (b := fun rec => fX10_findPhrases_l118_b rec o (nI r)) (z := fun _ _ => none) (fun m a Z => ∃ k, k ≤ pN d id ∧ m = pN d id - k ∧ a = nI (fs d id k) ∧ mfm o [41, 42, 43, 44, 45] X Z ∧ xI Z o 42 = nI k ∧ (∀ j, j ≤ dW d → xA Z (mA o 41) j = nI (lC d id j)) ∧ ∀ j, j < k → xA Z (mA o 43) j = nI (fs d id j) ∧ xA Z (mA o 44) j = nI (fs d id (j + 1) - fs d id j) ∧ xA Z (mA o 45) j = nI (pS d id j)) (fun X1 => mfm o [41, 42, 43, 44, 45] X X1 ∧ MPh X1 o d id) ?_ FU (pN d id) _ _ (FUlt (by have := pN_le d id; omega)) ⟨0, Nat.zero_le _, rfl, rfl, F1, by rw [xI_wI, if_pos ⟨rfl, rfl⟩]; rfl, hT, fun j hj => absurd hj (Nat.not_lt_zero _)⟩
    rintro m a Z ⟨k, hk, rfl, rfl, F, hx, hT1, ha⟩
    have L1 := L.mf F
    have R1 := R.mf F (by decide)
    have hid1 : xI Z o 38 = nI id := by rw [F.I (by decide)]; exact hid
    by_cases hkw : k = pN d id
    · left
      refine ⟨Z, fun rec => ?_, F, by rw [hx, hkw], hT1, fun j hj => ha j (by omega)⟩
      have e := pN_e d id
      unfold fX10_findPhrases_l118_b
      rw [hkw, e]
      simp (disch := first | omega | assumption | (simp only [LM_wI, LM_wF]; assumption)) only [gK_M, gI_M, pI_M, rM1, aM1, uM1, rM4, aM4, uM4, rM5, aM5, uM5, rM6, aM6, rM9, aM9, rM11, aM11, uM11, rM12, aM12, uM12, rM13, aM13, uM13, rM14, aM14, uM14, rM15, aM15, uM15, rM16, aM16, uM16, rM17, aM17, uM17, rM18, aM18, uM18, rM19, aM19, uM19, rM20, aM20, uM20, rM23, aM23, uM23, rM24, aM24, uM24, rM25, aM25, uM25, rM26, aM26, uM26, rM27, aM27, uM27, rM30, aM30, uM30, rM31, aM31, uM31, rM32, aM32, uM32, rM33, aM33, uM33, rM34, aM34, uM34, rM35, aM35, uM35, rM36, aM36, uM36, rM37, aM37, uM37, rM41, aM41, uM41, rM43, aM43, uM43, rM44, aM44, uM44, rM45, aM45, uM45, rM46, aM46, uM46, rM48, aM48, uM48, rM49, aM49, uM49, rM50, aM50, uM50, rM51, aM51, uM51, rM52, aM52, uM52, rM53, aM53, uM53, rM54, aM54, uM54, rM56, aM56, uM56, uL_M6, sb, nI_add, nI_mul, nI_1, nI_subI, nI_p1, nI_m1, Lt0, Lt2, Lt3, Lt4, Lt5, Lt8, Lt9, Lt10, Lt16, Lt24, Lt50, Lt80, Lt240, Lt1060, nI_leI, nI_ltI, nI_eq, leT, leF, ltT, ltF, nI_n0, if_true, if_false, not_true_eq_false, not_false_eq_true, xKd_wI, xLn_wI, xR_wI, xA_wI, xL_wI, xQ_wI, xKd_wF, xLn_wF, xR_wF, xI_wF, xL_wF, xQ_wF, R1.1]
    · right
      have hf := pN_lt d id (k := k) (by omega)
      have hs := fs_s d id hf
      have hlt := fs_lt d id hf
      have hle := fs_le d id (k + 1)
      have hpn := pN_le d id
      have h135 := m_fP135 L1 hr R1 W hid1 hid2 hT1 hf
      generalize hZ1 : wF Z (mA o 43) (va_up (xA Z (mA o 43)) k (nI (fs d id k))) = Z1
      generalize hZ2 : wF Z1 (mA o 44) (va_up (xA Z1 (mA o 44)) k (nI (fs d id (k + 1) - fs d id k))) = Z2
      have G1 : mfm o [41, 42, 43, 44, 45] Z Z1 := by rw [← hZ1]; exact mfm.wF (by decide) (by decide) (by decide)
      have G2 : mfm o [41, 42, 43, 44, 45] Z1 Z2 := by rw [← hZ2]; exact mfm.wF (by decide) (by decide) (by decide)
      have G3 := G1.tr G2
      have L2 := L1.mf G1
      have L3 := L1.mf G3
      have R3 := R1.mf G3 (by decide)
      have i1 : xI Z1 o 42 = nI k := by rw [← hZ1, xI_wF]; exact hx
      have i2 : xI Z2 o 42 = nI k := by rw [← hZ2, xI_wF]; exact i1
      have h204 := m_fP204 L3 hr R3 W (i := fs d id k) (j := fs d id (k + 1)) (p := k) (by omega) hle (by omega) i2
      generalize hZ3 : wF Z2 (mA o 45) (va_up (xA Z2 (mA o 45)) k (nI (ps (dS d) (fs d id (k + 1)) - ps (dS d) (fs d id k)))) = Z3 at h204
      have G4 : mfm o [41, 42, 43, 44, 45] Z2 Z3 := by rw [← hZ3]; exact mfm.wF (by decide) (by decide) (by decide)
      have L4 := L3.mf G4
      have i3 : xI Z3 o 42 = nI k := by rw [← hZ3, xI_wF]; exact i2
      refine ⟨pN d id - (k + 1), nI (fs d id (k + 1)), wI Z3 o 42 (nI (k + 1)), by omega, ⟨k + 1, by omega, rfl, rfl, ((F.tr G3).tr G4).tr (mfm.wI (by decide)), by rw [xI_wI, if_pos ⟨rfl, rfl⟩], ?_, ?_⟩, fun rec => ?_⟩
      · intro j hj
        rw [xA_wI, ← hZ3, xA_wFn (by rw [Ne, mA_inj (by decide) (by decide)]; decide), ← hZ2, xA_wFn (by rw [Ne, mA_inj (by decide) (by decide)]; decide), ← hZ1, xA_wFn (by rw [Ne, mA_inj (by decide) (by decide)]; decide)]
        exact hT1 j hj
      · intro j hj
        rw [xA_wI, ← hZ3, xA_wFn (by rw [Ne, mA_inj (by decide) (by decide)]; decide), xA_wFn (by rw [Ne, mA_inj (by decide) (by decide)]; decide), xA_wFe, ← hZ2, xA_wFn (by rw [Ne, mA_inj (by decide) (by decide)]; decide), xA_wFe, xA_wFn (by rw [Ne, mA_inj (by decide) (by decide)]; decide), ← hZ1, xA_wFe, xA_wFn (by rw [Ne, mA_inj (by decide) (by decide)]; decide), xA_wFn (by rw [Ne, mA_inj (by decide) (by decide)]; decide)]
        by_cases hjk : j = k
        · subst hjk
          rw [upE, upE, upE]
          exact ⟨rfl, rfl, rfl⟩
        · rw [upN hjk, upN hjk, upN hjk]
          exact ha j (by omega)
      · unfold fX10_findPhrases_l118_b
        rw [rM30 L1, sb, aM30 L1 (by omega), sb, R1.1, if_neg (nI_ge hf (by omega)), sb, aM30 L1 (by omega), sb, R1.1, h135, sb]
        dsimp only
        rw [← hs, rM43 L1, sb, gI_M L1, sb, hx, uM43 L1 (by omega), sb, hZ1, rM44 L2, sb, gI_M L2, sb, i1, nI_subI (by omega), uM44 L2 (by omega), sb, hZ2, rM45 L3, sb, gI_M L3, sb, i2, uM45 L3 (by omega), sb, Lt16, nI_mul, nI_add, h204, sb, gI_M L4, sb, i3, nI_1, pI_M L4, sb]
  obtain ⟨X1, h1, h2, h3⟩ := hl
  refine ⟨X1, ?_, h2, h3⟩
  have Ly := L0.mf FY
  have hA : xA (wF X (mA o 41) (va_up (xA X (mA o 41)) (dW d) 0)) (mA o 30) r = nI (dW d) := R0.1
  unfold fX10_findPhrases
  rw [rM41 L, sb, rM30 L, sb, aM30 L (by omega), sb, R.1, uM41 L (by omega), sb, rM30 L0, sb, aM30 L0 (by omega), sb, hA, hY, sb, pI_M Ly, sb, h1, sb]
end MPhr
