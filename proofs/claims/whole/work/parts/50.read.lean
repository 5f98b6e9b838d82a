/-! reading -/
section Rdg
variable {X : XW} {v : Nat} {t : St}
theorem d0_0 {X : XW} {q : Nat} (C : CRd X q d0) : xI X q 7 = nI 0 ∧ ∀ j, j < 16 → xA X (q + 1) j = 0 := ⟨C.2.1, fun j hj => C.2.2.2.2.1 j (Nat.zero_le _) hj⟩
theorem f_bl2 {q p : Nat} {d : Rd} (Lq : LRd X q) (Lp : LRd X p) (hqp : q + 9 < p ∨ p + 9 < q) (Cq : CRd X q d0) (Cp : CRd X p d) (W : WRd d) : ∃ X1, fX4_becomeLike_l2 q p FU 0 X = some X1 ∧ xfm (fun a => a = q ∨ q + 1 ≤ a ∧ a ≤ q + 5) X X1 ∧ xI X1 q 7 = nI (dZ d) ∧ (∀ j, j < dW d → CWd X1 q j d) ∧ ∀ j, dW d ≤ j → j < 16 → xA X1 (q + 1) j = 0 := by
  have w16 := W.1
  have key := iterP2 (b := fun rec => fX4_becomeLike_l2_b rec q p) (z := fun _ _ => none) (fun m a Z => ∃ k, k ≤ dW d ∧ m = dW d - k ∧ a = nI k ∧ xfm (fun a => a = q ∨ q + 1 ≤ a ∧ a ≤ q + 5) X Z ∧ xI Z q 7 = nI (ps (dS d) k) ∧ (∀ j, j < k → CWd Z q j d) ∧ ∀ j, k ≤ j → j < 16 → xA Z (q + 1) j = 0) (fun X1 => xfm (fun a => a = q ∨ q + 1 ≤ a ∧ a ≤ q + 5) X X1 ∧ xI X1 q 7 = nI (dZ d) ∧ (∀ j, j < dW d → CWd X1 q j d) ∧ ∀ j, dW d ≤ j → j < 16 → xA X1 (q + 1) j = 0) ?_ FU (dW d) (nI 0) X (FUlt (by omega)) ⟨0, Nat.zero_le _, rfl, rfl, xfm.rf _ _, (d0_0 Cq).1, fun j hj => absurd hj (Nat.not_lt_zero _), fun j _ hj => (d0_0 Cq).2 j hj⟩
  · exact key
  rintro m a Z ⟨k, hk, rfl, rfl, F, h7, hw, hz⟩
  have Lp1 := Lp.mv F
  have Cp1 := Cp.mf F (fun a q1 q2 => by omega)
  by_cases hkk : k = dW d
  · left
    subst hkk
    refine ⟨Z, fun rec => ?_, F, h7, hw, hz⟩
    unfold fX4_becomeLike_l2_b
    rw [dI Lp1, sb, Cp1.1, if_pos (nI_le (Nat.le_refl _) (by omega))]
  · right
    have hk' : k < dW d := by omega
    obtain ⟨e1, e2, e3, e4, e5⟩ := Cp1.2.2.2.1 k hk'
    obtain ⟨-, -, -, -, w5, w6⟩ := W.2.1 k hk'
    have Lq1 := Lq.mv F
    have hp := f_putWord (k := k) (n := nI (dS d k)) (s := nI (dT d k)) (b := nI (dB d k)) Lq1 (by omega) w5 w6
    have FP := putW_f Z q k (nI (dS d k)) (nI (dT d k)) (nI (dB d k)) (dN d k) (dC d k)
    obtain ⟨p1, p2, p3, p4, p5, p7, pj⟩ := putW_A Z q k (nI (dS d k)) (nI (dT d k)) (nI (dB d k)) (dN d k) (dC d k)
    generalize putW Z q k (nI (dS d k)) (nI (dT d k)) (nI (dB d k)) (dN d k) (dC d k) = Z1 at *
    refine ⟨dW d - (k + 1), nI (k + 1), Z1, by omega, ⟨k + 1, by omega, rfl, rfl, F.tr FP, ?_, fun j hj => ?_, fun j h1 h2 => ?_⟩, fun rec => ?_⟩
    · rw [p7, h7, hz k (Nat.le_refl _) (by omega), Int32.sub_zero, nI_add]
      rfl
    · unfold CWd
      rw [p1, p2, p3, p4, p5]
      by_cases e : j = k
      · subst e
        rw [upE, upE, upE, upE, upE]
        exact ⟨rfl, rfl, rfl, rfl, rfl⟩
      · rw [upN e, upN e, upN e, upN e, upN e]
        exact hw j (by omega)
    · rw [p1, upN (by omega)]
      exact hz j (by omega) h2
    · unfold fX4_becomeLike_l2_b
      rw [dI Lp1, sb, Cp1.1, if_neg (nI_ge hk' (by omega)), dR0 Lp1, sb, dA0 Lp1 (by omega), sb, e1, dR1 Lp1, sb, dA1 Lp1 (by omega), sb, e2, dR2 Lp1, sb, dA2 Lp1 (by omega), sb, e3, dR3 Lp1, sb, dA3 Lp1 (by omega), sb, e4, dR4 Lp1, sb, dA4 Lp1 (by omega), sb, e5, dK Lq1, sb, hp, sb, nI_1]
theorem f_bl69 {q p : Nat} {d : Rd} (Lq : LRd X q) (Lp : LRd X p) (hqp : q + 9 < p ∨ p + 9 < q) (Cp : CRd X p d) : ∃ X1, fX4_becomeLike_l69 q p FU 0 X = some X1 ∧ xfm (fun a => q + 7 ≤ a ∧ a ≤ q + 9) X X1 ∧ ∀ w i, w < 3 → i < 80 → xA X1 (q + 7 + w) i = dM d w i := by
  have key := iterP2 (b := fun rec => fX4_becomeLike_l69_b rec q p) (z := fun _ _ => none) (fun m a Z => ∃ k, k ≤ 3 ∧ m = 3 - k ∧ a = nI k ∧ xfm (fun a => q + 7 ≤ a ∧ a ≤ q + 9) X Z ∧ ∀ w i, w < k → i < 80 → xA Z (q + 7 + w) i = dM d w i) (fun X1 => xfm (fun a => q + 7 ≤ a ∧ a ≤ q + 9) X X1 ∧ ∀ w i, w < 3 → i < 80 → xA X1 (q + 7 + w) i = dM d w i) ?_ FU 3 (nI 0) X (FUlt (by decide)) ⟨0, by decide, rfl, rfl, xfm.rf _ _, fun w i hw => absurd hw (Nat.not_lt_zero _)⟩
  · exact key
  rintro m a Z ⟨k, hk, rfl, rfl, F, hm⟩
  by_cases hkk : k = 3
  · left
    subst hkk
    refine ⟨Z, fun rec => ?_, F, hm⟩
    unfold fX4_becomeLike_l69_b
    rw [if_pos (by decide)]
  · right
    have hk' : k < 3 := by omega
    have Lp1 := Lp.mv F
    have Lq1 := Lq.mv F
    have Cp1 := Cp.mf F (fun a q1 q2 => by omega)
    have ap := (Lp1.2.2.2.2.2.2.2.2 k hk').2
    have aq := (Lq1.2.2.2.2.2.2.2.2 k hk').2
    have hc : cpI Z (p + 7 + k) 0 (q + 7 + k) 0 80 = some (wF Z (q + 7 + k) (va_cpy (xA Z (p + 7 + k)) (xA Z (q + 7 + k)) 0 0 80)) := by
      unfold cpI
      rw [if_pos ⟨ap.1, aq.1, by decide, by decide, by decide, by rw [ap.2]; decide, by rw [aq.2]; decide⟩]
      rfl
    refine ⟨3 - (k + 1), nI (k + 1), _, by omega, ⟨k + 1, by omega, rfl, rfl, F.tr (xfm.wF (a := q + 7 + k) (f := va_cpy (xA Z (p + 7 + k)) (xA Z (q + 7 + k)) 0 0 80) (by omega)), fun w i hw hi => ?_⟩, fun rec => ?_⟩
    · by_cases e : w = k
      · subst e
        rw [xA_wFe, pk_cpy_in (Nat.zero_le _) (by omega)]
        show xA Z (p + 7 + w) (0 + (i - 0)) = _
        rw [Nat.sub_zero, Nat.zero_add]
        exact Cp1.2.2.2.2.2 w i hk' hi
      · rw [xA_wFn (by omega)]
        exact hm w i (by omega) hi
    · unfold fX4_becomeLike_l69_b
      rw [if_neg (show ¬ (3 : Int32) ≤ nI k from nI_ge (b := 3) hk' (by decide)), dR5 Lp1, sb, dQ Lp1 hk', sb, dR5 Lq1, sb, dQ Lq1 hk', sb, hc, sb, nI_1]
theorem f_become {q p : Nat} {d : Rd} (Lq : LRd X q) (Lp : LRd X p) (hqp : q + 9 < p ∨ p + 9 < q) (Cq : CRd X q d0) (Cp : CRd X p d) (W : WRd d) : ∃ X1, fX4_becomeLike q p X = some X1 ∧ xfm (fun a => q ≤ a ∧ a < q + 10) X X1 ∧ CRd X1 q d := by
  obtain ⟨Y, y1, F1, h7, hw, hz⟩ := f_bl2 Lq Lp hqp Cq Cp W
  have Lq1 := Lq.mv F1
  have Lp1 := Lp.mv F1
  have Cp1 := Cp.mf F1 (fun a q1 q2 => by omega)
  generalize hY1 : wI Y q 6 (nI (dW d)) = Y1
  have F2 : xfm (fun a => a = q) Y Y1 := by rw [← hY1]; exact xfm.wI rfl
  have Cp2 := Cp1.mf F2 (fun a q1 q2 => by omega)
  generalize hY2 : wI Y1 q 8 (nI (dU d)) = Y2
  have F3 : xfm (fun a => a = q) Y1 Y2 := by rw [← hY2]; exact xfm.wI rfl
  have Cp3 := Cp2.mf F3 (fun a q1 q2 => by omega)
  obtain ⟨Z, z1, F4, hm⟩ := f_bl69 ((Lq1.mv F2).mv F3) ((Lp1.mv F2).mv F3) hqp Cp3
  refine ⟨Z, ?_, ((F1.wk (fun a ha => by omega)).tr ((F2.wk (fun a ha => by omega)).tr ((F3.wk (fun a ha => by omega)).tr (F4.wk (fun a ha => by omega))))), ?_⟩
  · unfold fX4_becomeLike
    rw [y1, sb, dI Lp1, sb, Cp1.1, dP Lq1, sb, hY1, dI (Lp1.mv F2), sb, Cp2.2.2.1, dP (Lq1.mv F2), sb, hY2, z1, sb]
  · have e0 : xI Z q = xI Y2 q := (F4.2 q (by omega)).1
    have eA : ∀ j, 1 ≤ j → j ≤ 5 → xA Z (q + j) = xA Y (q + j) := fun j h1 h2 => by
      rw [(F4.2 (q + j) (by omega)).2.1, (F3.2 (q + j) (by omega)).2.1, (F2.2 (q + j) (by omega)).2.1]
    refine ⟨?_, ?_, ?_, fun j hj => ?_, fun j h1 h2 => ?_, hm⟩
    · rw [e0, ← hY2, xI_wn (by decide), ← hY1, xI_we]
    · rw [e0, ← hY2, xI_wn (by decide), ← hY1, xI_wn (by decide)]
      exact h7
    · rw [e0, ← hY2, xI_we]
    · unfold CWd
      rw [eA 1 (by decide) (by decide), eA 2 (by decide) (by decide), eA 3 (by decide) (by decide), eA 4 (by decide) (by decide), eA 5 (by decide) (by decide)]
      exact hw j hj
    · rw [eA 1 (by decide) (by decide)]
      exact hz j h1 h2
theorem m_rd52 {o rc hd : Nat} (L : LM X o) (hrc : rc < 4) (hlt : hd < rc) (h29 : xI X o 29 = nI hd) : ∃ X1, fX10_reading_l52 o (nI rc) FU 0 X = some X1 ∧ mfm o [31, 32, 33, 34, 35] X X1 ∧ (∀ a, a ∈ [31, 32, 33, 34, 35] → ∀ i, i < 16 * rc → xA X1 (mA o a) i = xA X (mA o a) i) ∧ ∀ j, j < 16 → xA X1 (mA o 31) (16 * rc + j) = xA X (mA o 31) (16 * hd + j) ∧ xA X1 (mA o 32) (16 * rc + j) = xA X (mA o 32) (16 * hd + j) ∧ xA X1 (mA o 33) (16 * rc + j) = xA X (mA o 33) (16 * hd + j) ∧ xA X1 (mA o 34) (16 * rc + j) = vp_nar .boolean (xA X (mA o 34) (16 * hd + j)) ∧ xA X1 (mA o 35) (16 * rc + j) = vp_nar .boolean (xA X (mA o 35) (16 * hd + j)) := by
  have key := iterP2 (b := fun rec => fX10_reading_l52_b rec o (nI rc)) (z := fun _ _ => none) (fun m a Z => ∃ k, k ≤ 16 ∧ m = 16 - k ∧ a = nI k ∧ mfm o [31, 32, 33, 34, 35] X Z ∧ (∀ a, a ∈ [31, 32, 33, 34, 35] → ∀ i, i < 16 * rc → xA Z (mA o a) i = xA X (mA o a) i) ∧ ∀ j, j < k → xA Z (mA o 31) (16 * rc + j) = xA X (mA o 31) (16 * hd + j) ∧ xA Z (mA o 32) (16 * rc + j) = xA X (mA o 32) (16 * hd + j) ∧ xA Z (mA o 33) (16 * rc + j) = xA X (mA o 33) (16 * hd + j) ∧ xA Z (mA o 34) (16 * rc + j) = vp_nar .boolean (xA X (mA o 34) (16 * hd + j)) ∧ xA Z (mA o 35) (16 * rc + j) = vp_nar .boolean (xA X (mA o 35) (16 * hd + j))) (fun X1 => mfm o [31, 32, 33, 34, 35] X X1 ∧ (∀ a, a ∈ [31, 32, 33, 34, 35] → ∀ i, i < 16 * rc → xA X1 (mA o a) i = xA X (mA o a) i) ∧ ∀ j, j < 16 → xA X1 (mA o 31) (16 * rc + j) = xA X (mA o 31) (16 * hd + j) ∧ xA X1 (mA o 32) (16 * rc + j) = xA X (mA o 32) (16 * hd + j) ∧ xA X1 (mA o 33) (16 * rc + j) = xA X (mA o 33) (16 * hd + j) ∧ xA X1 (mA o 34) (16 * rc + j) = vp_nar .boolean (xA X (mA o 34) (16 * hd + j)) ∧ xA X1 (mA o 35) (16 * rc + j) = vp_nar .boolean (xA X (mA o 35) (16 * hd + j))) ?_ FU 16 (nI 0) X (FUlt (by decide)) ⟨0, by decide, rfl, rfl, mfm.rf, fun a _ i _ => rfl, fun j hj => absurd hj (Nat.not_lt_zero _)⟩
  · exact key
  rintro m a Z ⟨k, hk, rfl, rfl, F, h1, h2⟩
  by_cases hkk : k = 16
  · left
    subst hkk
    refine ⟨Z, fun rec => ?_, F, h1, h2⟩
    unfold fX10_reading_l52_b
    rw [if_pos (by decide)]
  · right
    have hk' : k < 16 := by omega
    have L1 := L.mf F
    have i29 : xI Z o 29 = nI hd := by rw [F.I (by decide)]; exact h29
    have r31 := h1 31 (by decide) (16 * hd + k) (by omega)
    have r32 := h1 32 (by decide) (16 * hd + k) (by omega)
    have r33 := h1 33 (by decide) (16 * hd + k) (by omega)
    have r34 := h1 34 (by decide) (16 * hd + k) (by omega)
    have r35 := h1 35 (by decide) (16 * hd + k) (by omega)
    obtain ⟨Z1, z1, z2, z31, z32, z33, z34, z35⟩ := m_tells (i := 16 * rc + k) L1 (by omega) (xA X (mA o 31) (16 * hd + k)) (xA X (mA o 32) (16 * hd + k)) (xA X (mA o 33) (16 * hd + k)) (xA X (mA o 34) (16 * hd + k)) (xA X (mA o 35) (16 * hd + k))
    refine ⟨16 - (k + 1), nI (k + 1), Z1, by omega, ⟨k + 1, by omega, rfl, rfl, F.tr z2, fun a ha i hi => ?_, fun j hj => ?_⟩, fun rec => ?_⟩
    · rw [← h1 a ha i hi]
      simp only [List.mem_cons, List.not_mem_nil, or_false] at ha
      rcases ha with rfl | rfl | rfl | rfl | rfl
      · rw [z31, upN (by omega)]
      · rw [z32, upN (by omega)]
      · rw [z33, upN (by omega)]
      · rw [z34, upN (by omega)]
      · rw [z35, upN (by omega)]
    · rw [z31, z32, z33, z34, z35]
      by_cases e : j = k
      · subst e
        rw [upE, upE, upE, upE, upE]
        exact ⟨rfl, rfl, rfl, rfl, rfl⟩
      · rw [upN (by omega), upN (by omega), upN (by omega), upN (by omega), upN (by omega)]
        exact h2 j (by omega)
    · unfold fX10_reading_l52_b
      rw [if_neg (show ¬ (16 : Int32) ≤ nI k from nI_ge (b := 16) hk' (by decide)), gI_M L1, sb, i29, rM31 L1, sb, Lt16, nI_mul, nI_add, aM31 L1 (by omega), sb, r31, rM32 L1, sb, aM32 L1 (by omega), sb, r32, rM33 L1, sb, aM33 L1 (by omega), sb, r33, rM34 L1, sb, aM34 L1 (by omega), sb, r34, rM35 L1, sb, aM35 L1 (by omega), sb, r35, gK_M L1, sb, nI_mul, nI_add, z1, sb, nI_1]
theorem m_rd116 {o rc hd : Nat} (L : LM X o) (hrc : rc < 4) (hlt : hd < rc) (h29 : xI X o 29 = nI hd) : fX10_reading_l116 o (nI rc) FU 0 X = some (wF X (mA o 37) (cpF (xA X (mA o 37)) (fun j => xA X (mA o 37) (240 * hd + (j - 240 * rc))) (240 * rc) 240)) := by
  have hl := iter2 (b := fun rec => fX10_reading_l116_b rec o (nI rc)) (z := fun _ _ => none) (s1 := nI) (sX := fun k => wF X (mA o 37) (cpF (xA X (mA o 37)) (fun j => xA X (mA o 37) (240 * hd + (j - 240 * rc))) (240 * rc) k)) (N := 240) (res := wF X (mA o 37) (cpF (xA X (mA o 37)) (fun j => xA X (mA o 37) (240 * hd + (j - 240 * rc))) (240 * rc) 240))
    (fun k hk rec => by
      have L1 : LM (wF X (mA o 37) (cpF (xA X (mA o 37)) (fun j => xA X (mA o 37) (240 * hd + (j - 240 * rc))) (240 * rc) k)) o := L.mv (tr1 rfl)
      have e : cpF (xA X (mA o 37)) (fun j => xA X (mA o 37) (240 * hd + (j - 240 * rc))) (240 * rc) k (240 * hd + k) = xA X (mA o 37) (240 * hd + (240 * rc + k - 240 * rc)) := by
        rw [Nat.add_sub_cancel_left]
        exact if_neg (by omega)
      unfold fX10_reading_l116_b
      rw [if_neg (show ¬ (240 : Int32) ≤ nI k from nI_ge (b := 240) hk (by decide)), rM37 L1, sb, sb, gI_M L1, sb, xI_wF, h29, Lt240, nI_mul, nI_add, aM37 L1 (by omega), sb, xA_wFe, e, nI_mul, nI_add, uM37 L1 (by omega), sb, wF_wF, xA_wFe, cpF_s (xA X (mA o 37)) (fun j => xA X (mA o 37) (240 * hd + (j - 240 * rc))), nI_1])
    (fun rec => by
      unfold fX10_reading_l116_b
      rw [if_pos (by decide)]) (n := FU) (FUlt (by decide))
  simp only [cpF_0, wF_self] at hl
  exact hl
theorem p_reading (I : Inv X v t) : ∃ a X1 X2 t', fX9_reading v X = some (a, X1) ∧ fX10_reading (v + 127) X1 = some (a, X2) ∧ Inv X2 v t' := by
  have W := I.2.2.1
  obtain ⟨W1, W2, W3, W4, W5, W6, W7, W8⟩ := id W
  obtain ⟨L, C1, C2, C3, C4, C5, C6, C7, C8, C9⟩ := id I.1
  have I0 : Inv (wI X (v + 127) 0 0) v t := I.mf (K := [0]) (mfm.wI (by decide)) (by decide)
  by_cases h4 : tC t = 4
  · refine ⟨-1, X, wI X (v + 127) 0 0, t, ?_, ?_, I0⟩
    · unfold fX9_reading
      rw [gI_of L.1, sb, C1, h4, if_neg (by decide)]
    · unfold fX10_reading
      rw [pI_M I.2.1.1, sb, gI_M I0.2.1.1, sb, I0.2.1.2.1, h4, if_pos (by decide)]
  have hc4 : tC t < 4 := by omega
  have hd4 : tH t < 4 := by omega
  have Wd := W4 (tH t) hd4
  have hqp : cR v (tC t) + 9 < cR v (tH t) ∨ cR v (tH t) + 9 < cR v (tC t) := by unfold cR; omega
  have hcv : v + 55 ≤ cR v (tC t) ∧ cR v (tC t) < v + 86 := by unfold cR; omega
  have hC0 : CRd X (cR v (tC t)) d0 := by
    have := C8 (tC t) hc4
    rw [W5 (tC t) (Nat.le_refl _) hc4] at this
    exact this
  obtain ⟨Y, y1, F1, CY⟩ := f_become (L.rd hc4).2 (L.rd hd4).2 hqp hC0 (C8 _ hd4) Wd
  have ev : xI Y v = xI X v := (F1.2 v (by omega)).1
  have L1 := L.mv F1
  generalize hY1 : wI Y v 2 (nI (tC t)) = Y1
  have F2 : xfm (fun a => a = v) Y Y1 := by rw [← hY1]; exact xfm.wI rfl
  generalize hY2 : wI Y1 v 1 (nI (tC t + 1)) = Y2
  have F3 : xfm (fun a => a = v) Y1 Y2 := by rw [← hY2]; exact xfm.wI rfl
  have FA : xfm (fun a => cR v (tC t) ≤ a ∧ a < cR v (tC t) + 10 ∨ a = v) X Y2 := (F1.wk (fun a ha => Or.inl ha)).tr ((F2.wk (fun a ha => Or.inr ha)).tr (F3.wk (fun a ha => Or.inr ha)))
  have L2 := L1.mv F2
  have L3 := L2.mv F3
  have i1 : xI Y1 v 1 = nI (tC t) := by rw [← hY1, xI_wn (by decide), ev]; exact C1
  have i2 : xI Y2 v 2 = nI (tC t) := by rw [← hY2, xI_wn (by decide), ← hY1, xI_we]
  have hcls : fX9_reading v X = some (nI (tC t), Y2) := by
    unfold fX9_reading
    rw [gI_of L.1, sb, C1, if_pos (show nI (tC t) < (4 : Int32) from nI_lt (b := 4) hc4 (by decide)), gR_of L.1 L.2.1, sb, sb, (L.rd hc4).1, sb, sb, gI_of L.1, sb, C2, (L.rd hd4).1, sb, dK (L.rd hc4).2, sb, y1, sb, gI_of L1.1, sb, ev, C1, pI_of L1.1, sb, hY1, gI_of L2.1, sb, i1, nI_1, pI_of L2.1, sb, hY2, gI_of L3.1, sb, i2]
  have M := I.2.1.xf FA (fun a q1 q2 => by omega)
  obtain ⟨M1, M2, M3, M4, M5, M6, M7, M8, M9, M10, M11⟩ := id M
  have K : List Nat := [0, 28, 29, 30, 31, 32, 33, 34, 35, 36, 37]
  have G0 : mfm (v + 127) [0, 28, 29, 30, 31, 32, 33, 34, 35, 36, 37] Y2 (wI Y2 (v + 127) 0 0) := mfm.wI (by decide)
  generalize hZ0 : wI Y2 (v + 127) 0 0 = Z0 at G0
  have A0 : xA Z0 = xA Y2 := by rw [← hZ0]; rfl
  have N0 := M1.mf G0
  generalize hZ1 : wF Z0 (mA (v + 127) 30) (va_up (xA Z0 (mA (v + 127) 30)) (tC t) (nI (dW (tD t (tH t))))) = Z1
  have G1 : mfm (v + 127) [0, 28, 29, 30, 31, 32, 33, 34, 35, 36, 37] Z0 Z1 := by rw [← hZ1]; exact mfm.wF (by decide) (by decide) (by decide)
  have N1 := N0.mf G1
  generalize hZ2 : wF Z1 (mA (v + 127) 36) (va_up (xA Z1 (mA (v + 127) 36)) (tC t) (nI (dU (tD t (tH t))))) = Z2
  have G2 : mfm (v + 127) [0, 28, 29, 30, 31, 32, 33, 34, 35, 36, 37] Z1 Z2 := by rw [← hZ2]; exact mfm.wF (by decide) (by decide) (by decide)
  have N2 := N1.mf G2
  have I2 : xI Z2 (v + 127) = xI Z0 (v + 127) := by rw [← hZ2, ← hZ1]; rfl
  have j29 : xI Z0 (v + 127) 29 = nI (tH t) := by rw [← hZ0, xI_wn (by decide)]; exact M3
  have j28 : xI Z0 (v + 127) 28 = nI (tC t) := by rw [← hZ0, xI_wn (by decide)]; exact M2
  obtain ⟨Z3, z3, G3, h3, h3'⟩ := m_rd52 N2 hc4 W3 (by rw [I2]; exact j29)
  have G3' : mfm (v + 127) [0, 28, 29, 30, 31, 32, 33, 34, 35, 36, 37] Z2 Z3 := G3.wk (by decide)
  have N3 := N2.mf G3
  have z4 := m_rd116 N3 hc4 W3 (by rw [G3.I (by decide), I2]; exact j29)
  generalize hZ4 : wF Z3 (mA (v + 127) 37) (cpF (xA Z3 (mA (v + 127) 37)) (fun j => xA Z3 (mA (v + 127) 37) (240 * tH t + (j - 240 * tC t))) (240 * tC t) 240) = Z4 at z4
  have G4 : mfm (v + 127) [0, 28, 29, 30, 31, 32, 33, 34, 35, 36, 37] Z3 Z4 := by rw [← hZ4]; exact mfm.wF (by decide) (by decide) (by decide)
  have N4 := N3.mf G4
  have j28' : xI Z4 (v + 127) 28 = nI (tC t) := by rw [← hZ4, xI_wF, G3.I (by decide), I2]; exact j28
  generalize hZ5 : wI Z4 (v + 127) 28 (nI (tC t + 1)) = Z5
  have G5 : mfm (v + 127) [0, 28, 29, 30, 31, 32, 33, 34, 35, 36, 37] Z4 Z5 := by rw [← hZ5]; exact mfm.wI (by decide)
  generalize hZ6 : wI Z5 (v + 127) 29 (nI (tC t)) = Z6
  have G6 : mfm (v + 127) [0, 28, 29, 30, 31, 32, 33, 34, 35, 36, 37] Z5 Z6 := by rw [← hZ6]; exact mfm.wI (by decide)
  have F := ((((((G0.tr G1).tr G2).tr G3').tr G4).tr G5).tr G6)
  have A6 : xA Z6 = xA Z4 := by rw [← hZ6, ← hZ5]; rfl
  have a30 : xA Z6 (mA (v + 127) 30) = va_up (xA Y2 (mA (v + 127) 30)) (tC t) (nI (dW (tD t (tH t)))) := by
    rw [A6, ← hZ4, xA_wFm (by decide) (by decide) (by decide), G3.A (k := 30) (by decide) (by decide) (by decide), ← hZ2, xA_wFm (by decide) (by decide) (by decide), ← hZ1, xA_wFe, A0]
  have a36 : xA Z6 (mA (v + 127) 36) = va_up (xA Y2 (mA (v + 127) 36)) (tC t) (nI (dU (tD t (tH t)))) := by
    rw [A6, ← hZ4, xA_wFm (by decide) (by decide) (by decide), G3.A (k := 36) (by decide) (by decide) (by decide), ← hZ2, xA_wFe, ← hZ1, xA_wFm (by decide) (by decide) (by decide), A0]
  have a37 : xA Z3 (mA (v + 127) 37) = xA Y2 (mA (v + 127) 37) := by
    rw [G3.A (k := 37) (by decide) (by decide) (by decide), ← hZ2, xA_wFm (by decide) (by decide) (by decide), ← hZ1, xA_wFm (by decide) (by decide) (by decide), A0]
  have aw : ∀ a, a ∈ [31, 32, 33, 34, 35] → xA Z6 (mA (v + 127) a) = xA Z3 (mA (v + 127) a) ∧ xA Z2 (mA (v + 127) a) = xA Y2 (mA (v + 127) a) := fun a ha => by
    simp only [List.mem_cons, List.not_mem_nil, or_false] at ha
    rw [A6, ← hZ4, ← hZ2, ← hZ1]
    rcases ha with rfl | rfl | rfl | rfl | rfl
    · exact ⟨xA_wFm (by decide) (by decide) (by decide), by rw [xA_wFm (by decide) (by decide) (by decide), xA_wFm (by decide) (by decide) (by decide), A0]⟩
    · exact ⟨xA_wFm (by decide) (by decide) (by decide), by rw [xA_wFm (by decide) (by decide) (by decide), xA_wFm (by decide) (by decide) (by decide), A0]⟩
    · exact ⟨xA_wFm (by decide) (by decide) (by decide), by rw [xA_wFm (by decide) (by decide) (by decide), xA_wFm (by decide) (by decide) (by decide), A0]⟩
    · exact ⟨xA_wFm (by decide) (by decide) (by decide), by rw [xA_wFm (by decide) (by decide) (by decide), xA_wFm (by decide) (by decide) (by decide), A0]⟩
    · exact ⟨xA_wFm (by decide) (by decide) (by decide), by rw [xA_wFm (by decide) (by decide) (by decide), xA_wFm (by decide) (by decide) (by decide), A0]⟩
  have a37' : ∀ j, xA Z6 (mA (v + 127) 37) j = cpF (xA Y2 (mA (v + 127) 37)) (fun j => xA Y2 (mA (v + 127) 37) (240 * tH t + (j - 240 * tC t))) (240 * tC t) 240 j := fun j => by
    rw [A6, ← hZ4, xA_wFe, a37]
  have hh := M9 _ W3
  refine ⟨nI (tC t), Y2, Z6, ((fun j => if j = tC t then tD t (tH t) else t.1 j), tC t + 1, tC t, t.2.2.2), hcls, ?_, ?_, ?_, ?_, ?_, ?_, (I.2.2.2.2.2.1.mv FA).mv F.xf, by rw [F.xf.sz, FA.sz]; exact I.2.2.2.2.2.2⟩
  · unfold fX10_reading
    rw [pI_M M1, sb, hZ0, gI_M N0, sb, j28, if_neg (show ¬ nI (tC t) = (4 : Int32) from fun q => h4 ((nI_eq (b := 4) (by omega) (by decide)).mp q)), sb, rM30 N0, sb, sb, gI_M N0, sb, j29, aM30 N0 hd4, sb, A0, hh.1, uM30 N0 hc4, sb, hZ1, rM36 N1, sb, sb, gI_M N1, sb]
    rw [show xI Z1 (v + 127) 29 = nI (tH t) from by rw [← hZ1]; exact j29, aM36 N1 hd4, sb, show xA Z1 (mA (v + 127) 36) (tH t) = nI (dU (tD t (tH t))) from by rw [← hZ1, xA_wFm (by decide) (by decide) (by decide), A0]; exact hh.2.1, uM36 N1 hc4, sb, hZ2, z3, sb, z4, sb, gI_M N4, sb, j28', nI_1, pI_M N4, sb, hZ5, pI_M (N4.mf G5), sb, hZ6]
  · refine CSt.mx (K := [0, 28, 29, 30, 31, 32, 33, 34, 35, 36, 37]) (X := Y2) ?_ F
    have ev2 : ∀ j, j ≠ 1 → j ≠ 2 → xI Y2 v j = xI X v j := fun j h1 h2 => by rw [← hY2, xI_wn h1, ← hY1, xI_wn h2, ev]
    refine ⟨L.mv FA, by rw [← hY2, xI_we]; rfl, i2, (ev2 4 (by decide) (by decide)).trans C3, (ev2 5 (by decide) (by decide)).trans C4, (ev2 6 (by decide) (by decide)).trans C5, (ev2 7 (by decide) (by decide)).trans C6, C7.mf FA (by omega) (by omega), fun r hr => ?_, fun m hm => (C9 m hm).mf FA (by unfold cM; omega) (fun a ha => by unfold SC; omega)⟩
    show CRd Y2 (cR v r) (if r = tC t then tD t (tH t) else tD t r)
    by_cases e : r = tC t
    · rw [if_pos e, e]
      exact (CY.mf F2 (fun a q1 q2 => by omega)).mf F3 (fun a q1 q2 => by omega)
    · rw [if_neg e]
      refine (C8 r hr).mf FA (fun a q1 q2 q3 => ?_)
      unfold cR at q1 q2 q3
      omega
  · refine ⟨N4.mv (tr1 (by rw [G6.1, G5.1])), ?_, ?_, ?_, ?_, ?_, ?_, M8.mf F (by decide), fun r hr => ?_, fun m hm => ⟨(M10 m hm).1.mf F (by decide), (M10 m hm).2.mf F (by decide)⟩, fun k hk => by rw [(F.2.2.2 9 (by decide) (by decide) (by decide)).2]; exact M11 k hk⟩
    · rw [← hZ6, xI_wn (by decide), ← hZ5, xI_we]; rfl
    · rw [← hZ6, xI_we]; rfl
    · rw [F.I (k := 10) (by decide)]; exact M4
    · rw [F.I (k := 38) (by decide)]; exact M5
    · rw [F.I (k := 39) (by decide)]; exact M6
    · rw [F.I (k := 40) (by decide)]; exact M7
    · have hr' : r < tC t + 1 := hr
      show MRd Z6 (v + 127) r (if r = tC t then tD t (tH t) else tD t r)
      by_cases e : r = tC t
      · subst e
        rw [if_pos rfl]
        obtain ⟨r1, r2, r3, r4⟩ := hh
        refine ⟨by rw [a30, upE], by rw [a36, upE], fun j hj => ?_, fun w i hw hi => ?_⟩
        · have w16 := Wd.1
          obtain ⟨g1, g2, g3, g4, g5⟩ := h3' j (by omega)
          obtain ⟨s1, s2, s3, s4, s5⟩ := r3 j hj
          obtain ⟨-, -, -, -, w5, w6⟩ := Wd.2.1 j hj
          unfold MWd
          rw [(aw 31 (by decide)).1, (aw 32 (by decide)).1, (aw 33 (by decide)).1, (aw 34 (by decide)).1, (aw 35 (by decide)).1, g1, g2, g3, g4, g5, (aw 31 (by decide)).2, (aw 32 (by decide)).2, (aw 33 (by decide)).2, (aw 34 (by decide)).2, (aw 35 (by decide)).2, s4, s5, nar1 w5, nar1 w6]
          exact ⟨s1, s2, s3, rfl, rfl⟩
        · rw [a37', show cpF (xA Y2 (mA (v + 127) 37)) (fun j => xA Y2 (mA (v + 127) 37) (240 * tH t + (j - 240 * tC t))) (240 * tC t) 240 (3 * (80 * tC t + i) + w) = xA Y2 (mA (v + 127) 37) (240 * tH t + (3 * (80 * tC t + i) + w - 240 * tC t)) from if_pos (by omega), show 240 * tH t + (3 * (80 * tC t + i) + w - 240 * tC t) = 3 * (80 * tH t + i) + w by omega]
          exact r4 w i hw hi
      · rw [if_neg e]
        have hrc : r < tC t := by omega
        have w16 := (W4 r (by omega)).1
        obtain ⟨r1, r2, r3, r4⟩ := M9 r hrc
        refine ⟨by rw [a30, upN e]; exact r1, by rw [a36, upN e]; exact r2, fun j hj => ?_, fun w i hw hi => ?_⟩
        · unfold MWd
          rw [(aw 31 (by decide)).1, (aw 32 (by decide)).1, (aw 33 (by decide)).1, (aw 34 (by decide)).1, (aw 35 (by decide)).1, h3 31 (by decide) _ (by omega), h3 32 (by decide) _ (by omega), h3 33 (by decide) _ (by omega), h3 34 (by decide) _ (by omega), h3 35 (by decide) _ (by omega), (aw 31 (by decide)).2, (aw 32 (by decide)).2, (aw 33 (by decide)).2, (aw 34 (by decide)).2, (aw 35 (by decide)).2]
          exact r3 j hj
        · rw [a37', show cpF (xA Y2 (mA (v + 127) 37)) (fun j => xA Y2 (mA (v + 127) 37) (240 * tH t + (j - 240 * tC t))) (240 * tC t) 240 (3 * (80 * r + i) + w) = xA Y2 (mA (v + 127) 37) (3 * (80 * r + i) + w) from if_neg (by omega)]
          exact r4 w i hw hi
  · refine ⟨by show 1 ≤ tC t + 1; omega, by show tC t + 1 ≤ 4; omega, by show tC t < tC t + 1; omega, fun r hr => ?_, fun r h1 h2 => ?_, W6, W7, W8⟩
    · show WRd (if r = tC t then tD t (tH t) else tD t r)
      by_cases e : r = tC t
      · rw [if_pos e]; exact Wd
      · rw [if_neg e]; exact W4 r hr
    · show (if r = tC t then tD t (tH t) else tD t r) = d0
      have h1' : tC t + 1 ≤ r := h1
      rw [if_neg (by omega)]
      exact W5 r (by omega) h2
  all_goals
    have hcc : ∀ s, (s = v + 7 ∨ s = v + 31) → CCa X s t → CCa Z6 s ((fun j => if j = tC t then tD t (tH t) else t.1 j), tC t + 1, tC t, t.2.2.2) := by
      intro s hs hc
      have h1 := (hc.mf FA (fun a q1 q2 => by omega)).mf F.xf (fun a q1 q2 => by omega)
      rcases h1 with h1 | ⟨r, g1, g2, g3⟩
      · exact Or.inl h1
      · refine Or.inr ⟨r, by show r < tC t + 1; omega, g2, ?_⟩
        show CSh Z6 s (if r = tC t then tD t (tH t) else tD t r) ((fun j => if j = tC t then tD t (tH t) else t.1 j), tC t + 1, tC t, t.2.2.2)
        rw [if_neg (by omega)]
        exact g3
  · exact hcc _ (Or.inl rfl) I.2.2.2.1
  · exact hcc _ (Or.inr rfl) I.2.2.2.2.1
end Rdg
