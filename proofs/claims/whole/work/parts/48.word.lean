/-! word, change -/
def sW (d : Rd) (W k a e c : Nat) (nw co : Int32) (g : Nat → Nat → Int32) : Rd := (W, (fun j => if j = k then a else dS d j), (fun j => if j = k then e else dT d j), (fun j => if j = k then c else dB d j), (fun j => if j = k then nw else dN d j), (fun j => if j = k then co else dC d j), dU d, g)
theorem wordOk_n {n s b : Int32} (h : wordOk n s b) : ∃ a e c : Nat, n = nI a ∧ 1 ≤ a ∧ a ≤ 5 ∧ s = nI e ∧ e < a ∧ b = nI c ∧ c ≤ 99 := by
  obtain ⟨h1, h2, h3, h4, h5, h6⟩ := h
  obtain ⟨a, a1, a2, rfl⟩ := bw_n (n := n) 1 5 (by decide) (by decide) ((if_neg h1).trans (if_neg h2))
  obtain ⟨c, -, c2, rfl⟩ := bw_n (n := b) 0 99 (by decide) (by decide) ((if_neg h5).trans (if_neg h6))
  obtain ⟨e, he, rfl⟩ := nI_of h3
  refine ⟨a, e, c, rfl, a1, a2, rfl, ?_, rfl, c2⟩
  by_cases q : e < a
  · exact q
  · exact absurd (nI_le (by omega) he) h4
theorem putW_f (X : XW) (q k : Nat) (n s b nw co : Int32) : xfm (fun a => a = q ∨ q + 1 ≤ a ∧ a ≤ q + 5) X (putW X q k n s b nw co) := (((((xfm.wI (Or.inl rfl)).tr (xfm.wF (by omega))).tr (xfm.wF (by omega))).tr (xfm.wF (by omega))).tr (xfm.wF (by omega))).tr (xfm.wF (by omega))
theorem putW_A (X : XW) (q k : Nat) (n s b nw co : Int32) : xA (putW X q k n s b nw co) (q + 1) = va_up (xA X (q + 1)) k n ∧ xA (putW X q k n s b nw co) (q + 2) = va_up (xA X (q + 2)) k s ∧ xA (putW X q k n s b nw co) (q + 3) = va_up (xA X (q + 3)) k b ∧ xA (putW X q k n s b nw co) (q + 4) = va_up (xA X (q + 4)) k nw ∧ xA (putW X q k n s b nw co) (q + 5) = va_up (xA X (q + 5)) k co ∧ xI (putW X q k n s b nw co) q 7 = xI X q 7 + (n - xA X (q + 1) k) ∧ ∀ j, j ≠ 7 → xI (putW X q k n s b nw co) q j = xI X q j := by
  unfold putW
  refine ⟨?_, ?_, ?_, ?_, ?_, ?_, fun j hj => ?_⟩
  · simp (disch := omega) only [xA_wFe, xA_wFn]
  · simp (disch := omega) only [xA_wFe, xA_wFn]
  · simp (disch := omega) only [xA_wFe, xA_wFn]
  · simp (disch := omega) only [xA_wFe, xA_wFn]
  · simp (disch := omega) only [xA_wFe, xA_wFn]
  · simp only [xI_wF, xI_we]
  · simp only [xI_wF]
    rw [xI_wn hj]
theorem c_put {Y : XW} {q k W a e c : Nat} {d : Rd} {nw co : Int32} {g : Nat → Nat → Int32} (h6 : xI Y q 6 = nI W) (h7 : xI Y q 7 + (nI a - xA Y (q + 1) k) = nI (dZ (sW d W k a e c nw co g))) (h8 : xI Y q 8 = nI (dU d)) (hk : k < W) (hw : ∀ j, j < W → j ≠ k → CWd Y q j d) (hz : ∀ j, W ≤ j → j < 16 → xA Y (q + 1) j = 0) (hm : ∀ w i, w < 3 → i < 80 → xA Y (q + 7 + w) i = g w i) : CRd (putW Y q k (nI a) (nI e) (nI c) nw co) q (sW d W k a e c nw co g) := by
  have F := putW_f Y q k (nI a) (nI e) (nI c) nw co
  obtain ⟨p1, p2, p3, p4, p5, p7, pj⟩ := putW_A Y q k (nI a) (nI e) (nI c) nw co
  refine ⟨(pj 6 (by decide)).trans h6, p7.trans h7, (pj 8 (by decide)).trans h8, fun j hj => ?_, fun j h1 h2 => ?_, fun w i h1 h2 => ?_⟩
  · show xA _ (q + 1) j = nI (if j = k then a else dS d j) ∧ xA _ (q + 2) j = nI (if j = k then e else dT d j) ∧ xA _ (q + 3) j = nI (if j = k then c else dB d j) ∧ xA _ (q + 4) j = (if j = k then nw else dN d j) ∧ xA _ (q + 5) j = (if j = k then co else dC d j)
    rw [p1, p2, p3, p4, p5]
    by_cases h : j = k
    · subst h
      rw [upE, upE, upE, upE, upE, if_pos rfl, if_pos rfl, if_pos rfl, if_pos rfl, if_pos rfl]
      exact ⟨rfl, rfl, rfl, rfl, rfl⟩
    · rw [upN h, upN h, upN h, upN h, upN h, if_neg h, if_neg h, if_neg h, if_neg h, if_neg h]
      exact hw j hj h
  · have h1' : W ≤ j := h1
    rw [p1, upN (by omega)]
    exact hz j h1 h2
  · rw [(F.2 (q + 7 + w) (by omega)).2.1]
    exact hm w i h1 h2
theorem m_tells {X : XW} {o i : Nat} (L : LM X o) (hi : i < 64) (n s b nw co : Int32) : ∃ X1, fX10_tells o (nI i) n s b nw co X = some X1 ∧ mfm o [31, 32, 33, 34, 35] X X1 ∧ xA X1 (mA o 31) = va_up (xA X (mA o 31)) i n ∧ xA X1 (mA o 32) = va_up (xA X (mA o 32)) i s ∧ xA X1 (mA o 33) = va_up (xA X (mA o 33)) i b ∧ xA X1 (mA o 34) = va_up (xA X (mA o 34)) i (vp_nar .boolean nw) ∧ xA X1 (mA o 35) = va_up (xA X (mA o 35)) i (vp_nar .boolean co) := by
  generalize hY1 : wF X (mA o 31) (va_up (xA X (mA o 31)) i n) = Y1
  have F1 : mfm o [31, 32, 33, 34, 35] X Y1 := by rw [← hY1]; exact mfm.wF (by decide) (by decide) (by decide)
  generalize hY2 : wF Y1 (mA o 32) (va_up (xA Y1 (mA o 32)) i s) = Y2
  have F2 : mfm o [31, 32, 33, 34, 35] Y1 Y2 := by rw [← hY2]; exact mfm.wF (by decide) (by decide) (by decide)
  generalize hY3 : wF Y2 (mA o 33) (va_up (xA Y2 (mA o 33)) i b) = Y3
  have F3 : mfm o [31, 32, 33, 34, 35] Y2 Y3 := by rw [← hY3]; exact mfm.wF (by decide) (by decide) (by decide)
  generalize hY4 : wF Y3 (mA o 34) (va_up (xA Y3 (mA o 34)) i (vp_nar .boolean nw)) = Y4
  have F4 : mfm o [31, 32, 33, 34, 35] Y3 Y4 := by rw [← hY4]; exact mfm.wF (by decide) (by decide) (by decide)
  generalize hY5 : wF Y4 (mA o 35) (va_up (xA Y4 (mA o 35)) i (vp_nar .boolean co)) = Y5
  have F5 : mfm o [31, 32, 33, 34, 35] Y4 Y5 := by rw [← hY5]; exact mfm.wF (by decide) (by decide) (by decide)
  have L1 := L.mf F1
  have L2 := L1.mf F2
  have L3 := L2.mf F3
  have L4 := L3.mf F4
  refine ⟨Y5, ?_, (((F1.tr F2).tr F3).tr F4).tr F5, ?_, ?_, ?_, ?_, ?_⟩
  · unfold fX10_tells
    rw [rM31 L, sb, uM31 L hi, sb, hY1, rM32 L1, sb, uM32 L1 hi, sb, hY2, rM33 L2, sb, uM33 L2 hi, sb, hY3, rM34 L3, sb, uZ_M L3 nw (by decide) (by decide) hi, sb, hY4, rM35 L4, sb, uZ_M L4 co (by decide) (by decide) hi, sb, hY5]
  · simp (disch := decide) only [← hY5, ← hY4, ← hY3, ← hY2, ← hY1, xA_wFe, xA_wFm]
  · simp (disch := decide) only [← hY5, ← hY4, ← hY3, ← hY2, ← hY1, xA_wFe, xA_wFm]
  · simp (disch := decide) only [← hY5, ← hY4, ← hY3, ← hY2, ← hY1, xA_wFe, xA_wFm]
  · simp (disch := decide) only [← hY5, ← hY4, ← hY3, ← hY2, ← hY1, xA_wFe, xA_wFm]
  · simp (disch := decide) only [← hY5, ← hY4, ← hY3, ← hY2, ← hY1, xA_wFe, xA_wFm]
/-- the reference's readings behind 'tells' -/
theorem m_put {Y X2 : XW} {o r k W a e c : Nat} {d : Rd} {nw co : Int32} {g : Nat → Nat → Int32} (h31 : xA X2 (mA o 31) = va_up (xA Y (mA o 31)) (16 * r + k) (nI a)) (h32 : xA X2 (mA o 32) = va_up (xA Y (mA o 32)) (16 * r + k) (nI e)) (h33 : xA X2 (mA o 33) = va_up (xA Y (mA o 33)) (16 * r + k) (nI c)) (h34 : xA X2 (mA o 34) = va_up (xA Y (mA o 34)) (16 * r + k) nw) (h35 : xA X2 (mA o 35) = va_up (xA Y (mA o 35)) (16 * r + k) co) (h30 : xA X2 (mA o 30) r = nI W) (h36 : xA X2 (mA o 36) r = nI (dU d)) (hw : ∀ j, j < W → j ≠ k → MWd Y o r j d) (hm : ∀ w i, w < 3 → i < 80 → xA X2 (mA o 37) (3 * (80 * r + i) + w) = g w i) : MRd X2 o r (sW d W k a e c nw co g) := by
  refine ⟨h30, h36, fun j hj => ?_, hm⟩
  show xA X2 (mA o 31) (16 * r + j) = nI (if j = k then a else dS d j) ∧ xA X2 (mA o 32) (16 * r + j) = nI (if j = k then e else dT d j) ∧ xA X2 (mA o 33) (16 * r + j) = nI (if j = k then c else dB d j) ∧ xA X2 (mA o 34) (16 * r + j) = (if j = k then nw else dN d j) ∧ xA X2 (mA o 35) (16 * r + j) = (if j = k then co else dC d j)
  rw [h31, h32, h33, h34, h35]
  by_cases h : j = k
  · subst h
    rw [upE, upE, upE, upE, upE, if_pos rfl, if_pos rfl, if_pos rfl, if_pos rfl, if_pos rfl]
    exact ⟨rfl, rfl, rfl, rfl, rfl⟩
  · rw [upN (by omega), upN (by omega), upN (by omega), upN (by omega), upN (by omega), if_neg h, if_neg h, if_neg h, if_neg h, if_neg h]
    exact hw j hj h
theorem m_oth {Y X2 : XW} {o r r' k : Nat} {d : Rd} {x1 x2 x3 x4 x5 : Int32} (R : MRd Y o r' d) (hd : dW d ≤ 16) (hk : k < 16) (hne : r' ≠ r) (h31 : xA X2 (mA o 31) = va_up (xA Y (mA o 31)) (16 * r + k) x1) (h32 : xA X2 (mA o 32) = va_up (xA Y (mA o 32)) (16 * r + k) x2) (h33 : xA X2 (mA o 33) = va_up (xA Y (mA o 33)) (16 * r + k) x3) (h34 : xA X2 (mA o 34) = va_up (xA Y (mA o 34)) (16 * r + k) x4) (h35 : xA X2 (mA o 35) = va_up (xA Y (mA o 35)) (16 * r + k) x5) (h30 : xA X2 (mA o 30) r' = xA Y (mA o 30) r') (h36 : xA X2 (mA o 36) r' = xA Y (mA o 36) r') (hm : ∀ w i, w < 3 → i < 80 → xA X2 (mA o 37) (3 * (80 * r' + i) + w) = xA Y (mA o 37) (3 * (80 * r' + i) + w)) : MRd X2 o r' d := by
  obtain ⟨r1, r2, r3, r4⟩ := R
  refine ⟨h30.trans r1, h36.trans r2, fun j hj => ?_, fun w i h1 h2 => (hm w i h1 h2).trans (r4 w i h1 h2)⟩
  unfold MWd
  rw [h31, h32, h33, h34, h35, upN (by omega), upN (by omega), upN (by omega), upN (by omega), upN (by omega)]
  exact r3 j hj
section Wd
variable {X : XW} {v : Nat} {t : St}
theorem W_sW {d : Rd} {W k a e c : Nat} {nw co : Int32} {g : Nat → Nat → Int32} (w : WRd d) (hW : W ≤ 16) (hW2 : ∀ j, j < W → j ≠ k → j < dW d) (h1 : 1 ≤ a) (h2 : a ≤ 5) (h3 : e < a) (h4 : c ≤ 99) (h5 : nw = 0 ∨ nw = 1) (h6 : co = 0 ∨ co = 1) (hg : ∀ w i, w < 3 → i < 80 → g w i = -1 ∨ ∃ n : Nat, n ≤ 99 ∧ g w i = nI n) (hz : ∀ w i, w < 3 → i < 80 → dZ (sW d W k a e c nw co g) ≤ i → g w i = -1) : WRd (sW d W k a e c nw co g) := by
  refine ⟨hW, fun j hj => ?_, w.2.2.1, hg, hz⟩
  show 1 ≤ (if j = k then a else dS d j) ∧ (if j = k then a else dS d j) ≤ 5 ∧ (if j = k then e else dT d j) < (if j = k then a else dS d j) ∧ (if j = k then c else dB d j) ≤ 99 ∧ ((if j = k then nw else dN d j) = 0 ∨ (if j = k then nw else dN d j) = 1) ∧ ((if j = k then co else dC d j) = 0 ∨ (if j = k then co else dC d j) = 1)
  by_cases h : j = k
  · rw [if_pos h, if_pos h, if_pos h, if_pos h, if_pos h]
    exact ⟨h1, h2, h3, h4, h5, h6⟩
  · rw [if_neg h, if_neg h, if_neg h, if_neg h, if_neg h]
    exact w.2.1 j (hW2 j hj h)
theorem p_word (I : Inv X v t) (n s b nw co : Int32) (h1 : nw = 0 ∨ nw = 1) (h2 : co = 0 ∨ co = 1) : ∃ x X1 X2 t', fX9_word v n s b nw co X = some (x, X1) ∧ fX10_word (v + 127) n s b nw co X1 = some (x, X2) ∧ Inv X2 v t' := by
  have W := I.2.2.1
  have W3 := W.2.2.1
  have W2 := W.2.1
  have hd4 : tH t < 4 := by omega
  have Wd := W.2.2.2.1 (tH t) hd4
  have w16 := Wd.1
  obtain ⟨c1, c2, c3, c4, c5, c6⟩ := I.1.2.2.2.2.2.2.2.2.1 (tH t) hd4
  have I0 : Inv (wI X (v + 127) 0 0) v t := I.mf (K := [0]) (mfm.wI (by decide)) (by decide)
  by_cases h : wordOk n s b
  rotate_left 1
  · refine ⟨-1, X, wI X (v + 127) 0 0, t, f_word_f I.1.1 I.1.2.2.1 hd4 (Or.inr h), ?_, I0⟩
    unfold fX10_word
    rw [pI_M I.2.1.1, sb, m_isWordSo_f _ h, sb]
    rw [if_pos rfl]
  by_cases hw : dW (tD t (tH t)) = 16
  · refine ⟨-1, X, wI X (v + 127) 0 0, t, f_word_f I.1.1 I.1.2.2.1 hd4 (Or.inl (by rw [c1, hw]; decide)), ?_, I0⟩
    have L0 := I0.2.1.1
    unfold fX10_word
    rw [pI_M I.2.1.1, sb, m_isWordSo_t _ h, sb]
    dsimp only
    rw [if_neg (by decide), rM30 L0, sb, gI_M L0, sb, I0.2.1.2.2.1, aM30 L0 hd4, sb, (I0.2.1.2.2.2.2.2.2.2.2.1 _ W3).1, hw, if_pos (by decide)]
  obtain ⟨a, e, c, rfl, a1, a2, rfl, a3, rfl, a4⟩ := wordOk_n h
  generalize hw0 : dW (tD t (tH t)) = w at *
  have hw2 : w < 16 := by omega
  have hc := f_word_t I.1.1 I.1.2.2.1 hd4 c1 hw2 h h1 h2
  generalize hX0 : putW (wI X (cR v (tH t)) 6 (nI (w + 1))) (cR v (tH t)) w (nI a) (nI e) (nI c) nw co = X0 at hc
  have F0 : xfm (fun a => cR v (tH t) ≤ a ∧ a < cR v (tH t) + 10) X X0 := by
    rw [← hX0]
    exact (xfm.wI (by omega)).tr ((putW_f _ _ _ _ _ _ _ _).wk (fun x hx => by omega))
  have F1 : xfm (SC v) X (wFs X0 v) := (F0.wk (fun a ha => by unfold SC; unfold cR at ha; omega)).tr ((wFs_f _ v).wk (fun a ha => by unfold SC; omega))
  have M := I.2.1.xf F1 (fun a q1 q2 => by unfold SC; omega)
  have eZ : dZ (sW (tD t (tH t)) (w + 1) w a e c nw co (dM (tD t (tH t)))) = dZ (tD t (tH t)) + a := by
    have := ps_up (f := dS (tD t (tH t))) (k := w) (x := a) (w + 1)
    rw [if_pos (Nat.lt_succ_self _), if_pos (Nat.lt_succ_self _)] at this
    have e2 : ps (dS (tD t (tH t))) (w + 1) = ps (dS (tD t (tH t))) w + dS (tD t (tH t)) w := rfl
    have e3 : dZ (tD t (tH t)) = ps (dS (tD t (tH t))) w := by unfold dZ; rw [hw0]
    have e4 : dZ (sW (tD t (tH t)) (w + 1) w a e c nw co (dM (tD t (tH t)))) = ps (fun j => if j = w then a else dS (tD t (tH t)) j) (w + 1) := rfl
    omega
  generalize hY : wFs X0 v = Y at *
  have G0 : mfm (v + 127) [0, 30, 31, 32, 33, 34, 35] Y (wI Y (v + 127) 0 0) := mfm.wI (by decide)
  have L0 := M.1.mf G0
  obtain ⟨Z, z1, z2, z31, z32, z33, z34, z35⟩ := m_tells (i := 16 * tH t + w) L0 (by omega) (nI a) (nI e) (nI c) nw co
  rw [nar1 h1] at z34
  rw [nar1 h2] at z35
  have G1 := G0.tr (z2.wk (by decide))
  have LZ := M.1.mf G1
  have i29 : ∀ {Q : XW}, mfm (v + 127) [0, 30, 31, 32, 33, 34, 35] Y Q → xI Q (v + 127) 29 = nI (tH t) := fun h => by rw [h.I (by decide)]; exact M.2.2.1
  have a30 : xA Y (mA (v + 127) 30) (tH t) = nI w := by rw [← hw0]; exact (M.2.2.2.2.2.2.2.2.1 _ W3).1
  have a30Z : xA Z (mA (v + 127) 30) = xA Y (mA (v + 127) 30) := z2.A (k := 30) (by decide) (by decide) (by decide)
  have b30 : xA Z (mA (v + 127) 30) (tH t) = nI w := by rw [a30Z]; exact a30
  have F := G1.tr (mfm.wF (k := 30) (f := va_up (xA Z (mA (v + 127) 30)) (tH t) (nI (w + 1))) (by decide) (by decide) (by decide))
  have G2 : mfm (v + 127) [0, 30, 31, 32, 33, 34, 35] Z (wF Z (mA (v + 127) 30) (va_up (xA Z (mA (v + 127) 30)) (tH t) (nI (w + 1)))) := mfm.wF (by decide) (by decide) (by decide)
  have LF := M.1.mf F
  refine ⟨nI (w + 1), Y, wF Z (mA (v + 127) 30) (va_up (xA Z (mA (v + 127) 30)) (tH t) (nI (w + 1))), upD t (tH t) (sW (tD t (tH t)) (w + 1) w a e c nw co (dM (tD t (tH t)))), hc, ?_, ?_⟩
  · unfold fX10_word
    rw [pI_M M.1, sb, m_isWordSo_t _ h, sb]
    dsimp only
    rw [if_neg (by decide), rM30 L0, sb, gI_M L0, sb, i29 G0, aM30 L0 hd4, sb, xA_wI, a30, if_neg (show ¬ nI w = (16 : Int32) from fun q => hw ((nI_eq (b := 16) (by omega) (by decide)).mp q)), sb, sb, sb, aM30 L0 hd4, sb, xA_wI, a30, gK_M L0, sb, Lt16, nI_mul, nI_add, z1, sb, rM30 LZ, sb, gI_M LZ, sb, i29 G1, aM30 LZ hd4, sb, b30, nI_1, uM30 LZ hd4, sb, rM30 LF, sb, gI_M LF, sb, i29 F, aM30 LF hd4, sb, xA_wFe, upE]
  · subst hY
    refine inv_rd I F0 ?_ ?_ F (by decide) ?_
    · rw [← hX0]
      refine c_put (by rw [xI_we]) ?_ ((xI_wn (by decide)).trans c3) (Nat.lt_succ_self _) (fun j hj hne => c4 j (by omega)) (fun j h3 h4 => c5 j (by omega) h4) (fun w i h3 h4 => c6 w i h3 h4)
      rw [xI_wn (by decide), xA_wI, c2, c5 w (by omega) hw2, eZ, Int32.sub_zero, nI_add]
    · refine W_sW Wd (by omega) (fun j h3 h4 => by omega) a1 a2 a3 a4 h1 h2 Wd.2.2.2.1 (fun w i h3 h4 h5 => ?_)
      rw [eZ] at h5
      exact Wd.2.2.2.2 w i h3 h4 (by omega)
    · intro M
      have M9 := M.2.2.2.2.2.2.2.2.1
      have E : ∀ k, k ∈ [31, 32, 33, 34, 35] → k < 57 → tMt.getD k 0 ≠ 0 → xA (wF Z (mA (v + 127) 30) (va_up (xA Z (mA (v + 127) 30)) (tH t) (nI (w + 1)))) (mA (v + 127) k) = xA Z (mA (v + 127) k) := fun k hk h57 h0 => xA_wFm h57 (by decide) (fun e => by rw [e] at hk; exact absurd hk (by decide))
      have E36 : ∀ k, k ∈ [36, 37] → k < 57 → tMt.getD k 0 ≠ 0 → xA (wF Z (mA (v + 127) 30) (va_up (xA Z (mA (v + 127) 30)) (tH t) (nI (w + 1)))) (mA (v + 127) k) = xA (wFs X0 v) (mA (v + 127) k) := fun k hk h57 h0 => F.A (fun q => by
        simp only [List.mem_cons, List.not_mem_nil, or_false] at hk q
        omega) h57 h0
      refine ⟨m_put ((E 31 (by decide) (by decide) (by decide)).trans z31) ((E 32 (by decide) (by decide) (by decide)).trans z32) ((E 33 (by decide) (by decide) (by decide)).trans z33) ((E 34 (by decide) (by decide) (by decide)).trans z34) ((E 35 (by decide) (by decide) (by decide)).trans z35) (by rw [xA_wFe, upE]) (by rw [E36 36 (by decide) (by decide) (by decide)]; exact (M9 _ W3).2.1) (fun j h3 h4 => (M9 _ W3).2.2.1 j (by omega)) (fun w i h3 h4 => by rw [E36 37 (by decide) (by decide) (by decide)]; exact (M9 _ W3).2.2.2 w i h3 h4), fun r hr hne => ?_⟩
      exact m_oth (M9 r hr) (W.2.2.2.1 r (by omega)).1 hw2 hne ((E 31 (by decide) (by decide) (by decide)).trans z31) ((E 32 (by decide) (by decide) (by decide)).trans z32) ((E 33 (by decide) (by decide) (by decide)).trans z33) ((E 34 (by decide) (by decide) (by decide)).trans z34) ((E 35 (by decide) (by decide) (by decide)).trans z35) (by rw [xA_wFe, upN hne, a30Z]) (by rw [E36 36 (by decide) (by decide) (by decide)]) (fun w i h3 h4 => by rw [E36 37 (by decide) (by decide) (by decide)])
end Wd
