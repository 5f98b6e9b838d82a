/-! change, reading, count -/
theorem nI_as {a b c : Nat} (h : c ≤ a + b) : nI a + (nI b - nI c) = nI (a + b - c) := by
  rw [← nI_subI h, ← nI_add, Int32.sub_eq_add_neg, Int32.sub_eq_add_neg, Int32.add_assoc]
section Chg
variable {X : XW} {v : Nat} {t : St}
theorem m_ch62 {o hd : Nat} (L : LM X o) (hd4 : hd < 4) (h29 : xI X o 29 = nI hd) {l1 l2 l3 l4 l5 l6 : Int32} : fX10_change_l62 o l1 l2 l3 l4 l5 l6 FU (nI (240 * hd)) X = some (wF X (mA o 37) (cpF (xA X (mA o 37)) (fun _ => -1) (240 * hd) 240)) := by
  have hl := iter2 (b := fun rec => fX10_change_l62_b rec o l1 l2 l3 l4 l5 l6) (z := fun _ _ => none) (s1 := fun k => nI (240 * hd + k)) (sX := fun k => wF X (mA o 37) (cpF (xA X (mA o 37)) (fun _ => -1) (240 * hd) k)) (N := 240) (res := wF X (mA o 37) (cpF (xA X (mA o 37)) (fun _ => -1) (240 * hd) 240))
    (fun k hk rec => by
      have L1 : LM (wF X (mA o 37) (cpF (xA X (mA o 37)) (fun _ => -1) (240 * hd) k)) o := L.mv (tr1 rfl)
      unfold fX10_change_l62_b
      rw [gI_M L1, sb, xI_wF, h29, Lt240, nI_mul, nI_add, if_neg (nI_ge (by omega) (by omega)), rM37 L1, sb, uM37 L1 (by omega), sb, wF_wF, xA_wFe, cpF_s (xA X (mA o 37)) (fun _ => -1), nI_1]
      rfl)
    (fun rec => by
      have L1 : LM (wF X (mA o 37) (cpF (xA X (mA o 37)) (fun _ => -1) (240 * hd) 240)) o := L.mv (tr1 rfl)
      unfold fX10_change_l62_b
      rw [gI_M L1, sb, xI_wF, h29, Lt240, nI_mul, nI_add, if_pos (nI_le (Nat.le_refl _) (by omega))]) (n := FU) (FUlt (by decide))
  simp only [cpF_0, wF_self, Nat.add_zero] at hl
  exact hl
theorem p_change (I : Inv X v t) (wd n s b nw co : Int32) (h1 : nw = 0 ∨ nw = 1) (h2 : co = 0 ∨ co = 1) : ∃ x X1 X2 t', fX9_change v wd n s b nw co X = some (x, X1) ∧ fX10_change (v + 127) wd n s b nw co X1 = some (x, X2) ∧ Inv X2 v t' := by
  have W := I.2.2.1
  have W3 := W.2.2.1
  have W2 := W.2.1
  have hd4 : tH t < 4 := by omega
  have Wd := W.2.2.2.1 (tH t) hd4
  have w16 := Wd.1
  obtain ⟨c1, c2, c3, c4, c5, c6⟩ := I.1.2.2.2.2.2.2.2.2.1 (tH t) hd4
  have I0 : Inv (wI X (v + 127) 0 0) v t := I.mf (K := [0]) (mfm.wI (by decide)) (by decide)
  by_cases h : wd < 0 ∨ nI (dW (tD t (tH t))) ≤ wd ∨ ¬ wordOk n s b
  · refine ⟨0, X, wI X (v + 127) 0 0, t, f_change_f I.1.1 I.1.2.2.1 hd4 c1 h, ?_, I0⟩
    have L0 := I0.2.1.1
    unfold fX10_change
    rw [pI_M I.2.1.1, sb]
    by_cases q1 : wd < 0
    · rw [if_pos q1]
    rw [if_neg q1, rM30 L0, sb, gI_M L0, sb, I0.2.1.2.2.1, aM30 L0 hd4, sb, (I0.2.1.2.2.2.2.2.2.2.2.1 _ W3).1]
    by_cases q2 : nI (dW (tD t (tH t))) ≤ wd
    · rw [if_pos q2]
    rw [if_neg q2, m_isWordSo_f _ ((h.resolve_left q1).resolve_left q2), sb]
    rw [if_pos rfl]
  have q1 : ¬ wd < 0 := fun q => h (Or.inl q)
  have q2 : ¬ nI (dW (tD t (tH t))) ≤ wd := fun q => h (Or.inr (Or.inl q))
  have q3 : wordOk n s b := Classical.byContradiction (fun q => h (Or.inr (Or.inr q)))
  obtain ⟨k, hk0, rfl⟩ := nI_of q1
  have hk : k < dW (tD t (tH t)) := by
    by_cases z : k < dW (tD t (tH t))
    · exact z
    · exact absurd (nI_le (by omega) hk0) q2
  obtain ⟨a, e, c, rfl, a1, a2, rfl, a3, rfl, a4⟩ := wordOk_n q3
  have hc := f_change_t I.1.1 I.1.2.2.1 hd4 c1 w16 hk q3 h1 h2
  have hS5 := (Wd.2.1 k hk).2.1
  have ek : xA X (cR v (tH t) + 1) k = nI (dS (tD t (tH t)) k) := (c4 k hk).1
  have hif : (xA X (cR v (tH t) + 1) k = nI a) ↔ dS (tD t (tH t)) k = a := by rw [ek, nI_eq (by omega) (by omega)]
  generalize hB : (if xA X (cR v (tH t) + 1) k = nI a then X else clM X (cR v (tH t)) 3) = B at hc
  have FB : xfm (fun x => cR v (tH t) ≤ x ∧ x < cR v (tH t) + 10) X B := by
    rw [← hB]
    split
    · exact xfm.rf _ _
    · exact ⟨clM_st _ _ _, fun x hx => ⟨by rw [clM_I], by rw [clM_A, if_neg (by omega)], by rw [clM_L]⟩⟩
  have BI : xI B = xI X := by
    rw [← hB]
    split
    · rfl
    · exact clM_I _ _ _
  have BA : ∀ j, j ≤ 5 → xA B (cR v (tH t) + j) = xA X (cR v (tH t) + j) := fun j hj => by
    rw [← hB]
    split
    · rfl
    · rw [clM_A, if_neg (by omega)]
  generalize hg : (if dS (tD t (tH t)) k = a then dM (tD t (tH t)) else fun _ _ => -1) = g
  have BM : ∀ w i, w < 3 → i < 80 → xA B (cR v (tH t) + 7 + w) i = g w i := fun w i hw hi => by
    rw [← hB, ← hg]
    by_cases z : dS (tD t (tH t)) k = a
    · rw [if_pos (hif.mpr z), if_pos z]
      exact c6 w i hw hi
    · rw [if_neg (fun y => z (hif.mp y)), if_neg z, clM_A, if_pos (by omega)]
      exact if_pos hi
  have hg1 : ∀ w i, w < 3 → i < 80 → g w i = -1 ∨ ∃ n : Nat, n ≤ 99 ∧ g w i = nI n := fun w i hw hi => by
    rw [← hg]
    split
    · exact Wd.2.2.2.1 w i hw hi
    · exact Or.inl rfl
  have eZ : dZ (sW (tD t (tH t)) (dW (tD t (tH t))) k a e c nw co g) + dS (tD t (tH t)) k = dZ (tD t (tH t)) + a := by
    have := ps_up (f := dS (tD t (tH t))) (k := k) (x := a) (dW (tD t (tH t)))
    rw [if_pos hk, if_pos hk] at this
    exact this
  generalize hX0 : putW B (cR v (tH t)) k (nI a) (nI e) (nI c) nw co = X0 at hc
  have F0 : xfm (fun a => cR v (tH t) ≤ a ∧ a < cR v (tH t) + 10) X X0 := by
    rw [← hX0]
    exact FB.tr ((putW_f _ _ _ _ _ _ _ _).wk (fun x hx => by omega))
  have F1 : xfm (SC v) X (wFs X0 v) := (F0.wk (fun a ha => by unfold SC; unfold cR at ha; omega)).tr ((wFs_f _ v).wk (fun a ha => by unfold SC; omega))
  have M := I.2.1.xf F1 (fun a q1 q2 => by unfold SC; omega)
  generalize hY : wFs X0 v = Y at *
  have G0 : mfm (v + 127) [0, 31, 32, 33, 34, 35, 37] Y (wI Y (v + 127) 0 0) := mfm.wI (by decide)
  have L0 := M.1.mf G0
  have i29 : ∀ {Q : XW}, mfm (v + 127) [0, 31, 32, 33, 34, 35, 37] Y Q → xI Q (v + 127) 29 = nI (tH t) := fun h => by rw [h.I (by decide)]; exact M.2.2.1
  have MR := M.2.2.2.2.2.2.2.2.1 _ W3
  -- the marks cleared, or not
  have hD : ∃ D, (if dS (tD t (tH t)) k = a then D = wI Y (v + 127) 0 0 else fX10_change_l62 (v + 127) (nI k) (nI a) (nI e) (nI c) nw co FU (nI (240 * tH t)) (wI Y (v + 127) 0 0) = some D) ∧ mfm (v + 127) [0, 31, 32, 33, 34, 35, 37] Y D ∧ (∀ j, j ∈ [30, 31, 32, 33, 34, 35, 36] → j < 57 → tMt.getD j 0 ≠ 0 → xA D (mA (v + 127) j) = xA Y (mA (v + 127) j)) ∧ (∀ w i, w < 3 → i < 80 → xA D (mA (v + 127) 37) (3 * (80 * tH t + i) + w) = g w i) ∧ ∀ r, r ≠ tH t → ∀ w i, w < 3 → i < 80 → xA D (mA (v + 127) 37) (3 * (80 * r + i) + w) = xA Y (mA (v + 127) 37) (3 * (80 * r + i) + w) := by
    by_cases z : dS (tD t (tH t)) k = a
    · refine ⟨wI Y (v + 127) 0 0, by rw [if_pos z], G0, fun j _ _ _ => rfl, fun w i hw hi => ?_, fun r _ w i _ _ => rfl⟩
      rw [← hg, if_pos z]
      exact MR.2.2.2 w i hw hi
    · have h62 := m_ch62 (l1 := nI k) (l2 := nI a) (l3 := nI e) (l4 := nI c) (l5 := nw) (l6 := co) L0 hd4 (i29 G0)
      refine ⟨_, by rw [if_neg z]; exact h62, G0.tr (mfm.wF (by decide) (by decide) (by decide)), fun j hj h57 _ => xA_wFm h57 (by decide) (fun e => by rw [e] at hj; exact absurd hj (by decide)), fun w i hw hi => ?_, fun r hr w i hw hi => ?_⟩
      · rw [xA_wFe, ← hg, if_neg z]
        exact if_pos (by omega)
      · rw [xA_wFe]
        exact if_neg (by omega)
  obtain ⟨D, d1, GD, d2, d3, d4⟩ := hD
  have LD := M.1.mf GD
  obtain ⟨Z, z1, z2, z31, z32, z33, z34, z35⟩ := m_tells (i := 16 * tH t + k) LD (by omega) (nI a) (nI e) (nI c) nw co
  rw [nar1 h1] at z34
  rw [nar1 h2] at z35
  have F := GD.tr (z2.wk (by decide))
  have j93 : fX10_change_j93 (v + 127) (nI k) (nI a) (nI e) (nI c) nw co D = some (1, Z) := by
    unfold fX10_change_j93
    rw [gI_M LD, sb, i29 GD, gK_M LD, sb, Lt16, nI_mul, nI_add, z1, sb]
  refine ⟨1, Y, Z, upD t (tH t) (sW (tD t (tH t)) (dW (tD t (tH t))) k a e c nw co g), hc, ?_, ?_⟩
  · unfold fX10_change
    rw [pI_M M.1, sb, if_neg q1, rM30 L0, sb, gI_M L0, sb, i29 G0, aM30 L0 hd4, sb, xA_wI, MR.1, if_neg q2, m_isWordSo_t _ q3, sb]
    dsimp only
    rw [if_neg (by decide), rM31 L0, sb, gI_M L0, sb, i29 G0, Lt16, nI_mul, nI_add, aM31 L0 (by omega), sb, xA_wI, (MR.2.2.1 k hk).1]
    by_cases z : dS (tD t (tH t)) k = a
    · rw [if_pos z] at d1
      rw [if_pos (by rw [z]), ← d1, j93]
    · rw [if_neg z] at d1
      rw [if_neg (fun y => z ((nI_eq (by omega) (by omega)).mp y)), sb, Lt240, nI_mul, d1, sb, j93]
  · subst hY
    refine inv_rd I F0 ?_ ?_ F (by decide) ?_
    · rw [← hX0]
      refine c_put (by rw [BI]; exact c1) ?_ (by rw [BI]; exact c3) hk (fun j hj hne => ?_) (fun j h3 h4 => by rw [BA 1 (by decide)]; exact c5 j h3 h4) BM
      · rw [BI, BA 1 (by decide), c2, ek, nI_as (by omega)]
        exact congrArg nI (by omega)
      · unfold CWd
        rw [BA 1 (by decide), BA 2 (by decide), BA 3 (by decide), BA 4 (by decide), BA 5 (by decide)]
        exact c4 j hj
    · refine W_sW Wd w16 (fun j h3 h4 => h3) a1 a2 a3 a4 h1 h2 hg1 (fun w i h3 h4 h5 => ?_)
      rw [← hg]
      by_cases z : dS (tD t (tH t)) k = a
      · rw [if_pos z]
        exact Wd.2.2.2.2 w i h3 h4 (by omega)
      · rw [if_neg z]
    · intro M
      have M9 := M.2.2.2.2.2.2.2.2.1
      have E : ∀ j, j ∈ [30, 36, 37] → j < 57 → tMt.getD j 0 ≠ 0 → xA Z (mA (v + 127) j) = xA D (mA (v + 127) j) := fun j hj h57 h0 => z2.A (fun q => by
        simp only [List.mem_cons, List.not_mem_nil, or_false] at hj q
        omega) h57 h0
      have e31 := z31.trans (by rw [d2 31 (by decide) (by decide) (by decide)])
      have e32 := z32.trans (by rw [d2 32 (by decide) (by decide) (by decide)])
      have e33 := z33.trans (by rw [d2 33 (by decide) (by decide) (by decide)])
      have e34 := z34.trans (by rw [d2 34 (by decide) (by decide) (by decide)])
      have e35 := z35.trans (by rw [d2 35 (by decide) (by decide) (by decide)])
      refine ⟨m_put e31 e32 e33 e34 e35 (by rw [E 30 (by decide) (by decide) (by decide), d2 30 (by decide) (by decide) (by decide)]; exact (M9 _ W3).1) (by rw [E 36 (by decide) (by decide) (by decide), d2 36 (by decide) (by decide) (by decide)]; exact (M9 _ W3).2.1) (fun j h3 h4 => (M9 _ W3).2.2.1 j h3) (fun w i h3 h4 => by rw [E 37 (by decide) (by decide) (by decide)]; exact d3 w i h3 h4), fun r hr hne => ?_⟩
      exact m_oth (M9 r hr) (W.2.2.2.1 r (by omega)).1 (by omega) hne e31 e32 e33 e34 e35 (by rw [E 30 (by decide) (by decide) (by decide), d2 30 (by decide) (by decide) (by decide)]) (by rw [E 36 (by decide) (by decide) (by decide), d2 36 (by decide) (by decide) (by decide)]) (fun w i h3 h4 => by rw [E 37 (by decide) (by decide) (by decide)]; exact d4 r hne w i h3 h4)
/-! count -/
def mkb (d : Rd) (w i : Nat) : Nat := if dM d w i = -1 then 0 else 1
theorem ps_3 (f : Nat → Nat → Nat) : ∀ n, ps (fun j => f (j % 3) (j / 3)) (3 * n) = ps (f 0) n + ps (f 1) n + ps (f 2) n
  | 0 => rfl
  | n + 1 => by
    have ih := ps_3 f n
    rw [show 3 * (n + 1) = 3 * n + 1 + 1 + 1 by omega]
    show ps (fun j => f (j % 3) (j / 3)) (3 * n) + f (3 * n % 3) (3 * n / 3) + f ((3 * n + 1) % 3) ((3 * n + 1) / 3) + f ((3 * n + 1 + 1) % 3) ((3 * n + 1 + 1) / 3) = (ps (f 0) n + f 0 n) + (ps (f 1) n + f 1 n) + (ps (f 2) n + f 2 n)
    rw [ih, show 3 * n % 3 = 0 by omega, show 3 * n / 3 = n by omega, show (3 * n + 1) % 3 = 1 by omega, show (3 * n + 1) / 3 = n by omega, show (3 * n + 1 + 1) % 3 = 2 by omega, show (3 * n + 1 + 1) / 3 = n by omega]
    omega
theorem ps_tail {f : Nat → Nat} {a b : Nat} (h : a ≤ b) (h0 : ∀ i, a ≤ i → i < b → f i = 0) : ps f b = ps f a := by
  induction b with
  | zero => rw [show a = 0 by omega]
  | succ b ih =>
    by_cases e : a = b + 1
    · rw [e]
    · show ps f b + f b = ps f a
      rw [ih (by omega) (fun i h1 h2 => h0 i h1 (by omega)), h0 b (by omega) (by omega)]
      rfl
theorem mkb_le (d : Rd) (w n : Nat) : ps (mkb d w) n ≤ n := by
  have := ps_bd (f := mkb d w) (w := n) (m := 1) (fun k _ => by unfold mkb; split <;> omega) n (Nat.le_refl _)
  omega
def mkN (d : Rd) : Nat := ps (mkb d 0) (dZ d) + ps (mkb d 1) (dZ d) + ps (mkb d 2) (dZ d)
theorem f_markCount {q : Nat} {d : Rd} (Q : LRd X q) (C : CRd X q d) (W : WRd d) : fX4_markCount q X = some (nI (mkN d), X) := by
  have W80 := W.z
  have h11 : ∀ w, w < 3 → ∀ s : Nat, fX4_markCount_l11 q (nI w) FU (nI s) 0 X = some (nI (s + ps (mkb d w) (dZ d)), X) := fun w hw s => by
    have hl := iter3 (b := fun rec => fX4_markCount_l11_b rec q (nI w)) (z := fun _ _ _ => none) (s1 := fun k => nI (s + ps (mkb d w) k)) (s2 := nI) (sX := fun _ => X) (N := dZ d) (res := (nI (s + ps (mkb d w) (dZ d)), X))
      (fun k hk rec => by
        unfold fX4_markCount_l11_b fX4_markCount_j37
        rw [dI Q, sb, C.2.1, if_neg (nI_ge hk (by omega)), dR5 Q, sb, dQ Q hw, sb, dMA Q hw (by omega), sb, C.2.2.2.2.2 w k hw (by omega), nI_1, nI_1, Int32.add_zero]
        have e : ps (mkb d w) (k + 1) = ps (mkb d w) k + mkb d w k := rfl
        rw [e]
        unfold mkb
        by_cases z : dM d w k = -1
        · rw [if_pos z, if_pos z]
          rfl
        · rw [if_neg z, if_neg z]
          rfl)
      (fun rec => by
        unfold fX4_markCount_l11_b
        rw [dI Q, sb, C.2.1, if_pos (nI_le (Nat.le_refl _) (by omega))]) (n := FU) (FUlt (by omega))
    exact hl
  have hl4 := iter3 (b := fun rec => fX4_markCount_l4_b rec q) (z := fun _ _ _ => none) (s1 := fun k => nI (ps (fun w => ps (mkb d w) (dZ d)) k)) (s2 := nI) (sX := fun _ => X) (N := 3) (res := (nI (ps (fun w => ps (mkb d w) (dZ d)) 3), X))
    (fun k hk rec => by
      unfold fX4_markCount_l4_b
      rw [if_neg (show ¬ (3 : Int32) ≤ nI k from nI_ge (b := 3) hk (by decide)), h11 k hk, sb, nI_1]
      rfl)
    (fun rec => by
      unfold fX4_markCount_l4_b
      rw [if_pos (by decide)]) (n := FU) (FUlt (by decide))
  unfold fX4_markCount
  rw [show fX4_markCount_l4 q FU 0 0 X = _ from hl4, sb]
  have e : ps (fun w => ps (mkb d w) (dZ d)) 3 = mkN d := by
    show 0 + ps (mkb d 0) (dZ d) + ps (mkb d 1) (dZ d) + ps (mkb d 2) (dZ d) = _
    unfold mkN
    omega
  rw [e]
theorem m_co16 {o hd : Nat} {d : Rd} (L : LM X o) (hd4 : hd < 4) (h29 : xI X o 29 = nI hd) (R : MRd X o hd d) (W : WRd d) {l1 : Int32} : fX10_count_l16 o l1 FU 0 (nI (240 * hd)) X = some (nI (mkN d), X) := by
  have W80 := W.z
  have hl := iter3 (b := fun rec => fX10_count_l16_b rec o l1) (z := fun _ _ _ => none) (s1 := fun k => nI (ps (fun j => mkb d (j % 3) (j / 3)) k)) (s2 := fun k => nI (240 * hd + k)) (sX := fun _ => X) (N := 240) (res := (nI (mkN d), X))
    (fun k hk rec => by
      have e := R.2.2.2 (k % 3) (k / 3) (by omega) (by omega)
      rw [show 3 * (80 * hd + k / 3) + k % 3 = 240 * hd + k by omega] at e
      unfold fX10_count_l16_b fX10_count_j47
      rw [gI_M L, sb, h29, Lt240, nI_mul, nI_add, if_neg (nI_ge (by omega) (by omega)), rM37 L, sb, aM37 L (by omega), sb, e, nI_1, nI_1, Int32.add_zero]
      have e2 : ps (fun j => mkb d (j % 3) (j / 3)) (k + 1) = ps (fun j => mkb d (j % 3) (j / 3)) k + mkb d (k % 3) (k / 3) := rfl
      rw [e2]
      unfold mkb
      have hlt := mk_lt (w := k % 3) (i := k / 3) W (by omega) (by omega)
      by_cases z : dM d (k % 3) (k / 3) = -1
      · rw [if_pos (by rw [hlt]; exact z), if_pos z]
        rfl
      · rw [if_neg (by rw [hlt]; exact z), if_neg z]
        rfl)
    (fun rec => by
      have e3 : ps (fun j => mkb d (j % 3) (j / 3)) 240 = mkN d := by
        rw [show 240 = 3 * 80 from rfl, ps_3]
        unfold mkN
        have h0 : ∀ w, w < 3 → ∀ i, dZ d ≤ i → i < 80 → mkb d w i = 0 := fun w hw i h1 h2 => if_pos (W.2.2.2.2 w i hw h2 h1)
        rw [ps_tail W80 (h0 0 (by decide)), ps_tail W80 (h0 1 (by decide)), ps_tail W80 (h0 2 (by decide))]
      unfold fX10_count_l16_b
      rw [gI_M L, sb, h29, Lt240, nI_mul, nI_add, if_pos (nI_le (Nat.le_refl _) (by omega)), e3]) (n := FU) (FUlt (by decide))
  simp only [Nat.add_zero] at hl
  exact hl
theorem p_count (I : Inv X v t) (a : Int32) : ∃ x X1 X2, fX9_count v a X = some (x, X1) ∧ fX10_count (v + 127) a X1 = some (x, X2) ∧ Inv X2 v t := by
  have W := I.2.2.1
  have W3 := W.2.2.1
  have W2 := W.2.1
  have W6 := W.2.2.2.2.2.1
  have hd4 : tH t < 4 := by omega
  have Wd := W.2.2.2.1 (tH t) hd4
  have I0 : Inv (wI X (v + 127) 0 0) v t := I.mf (K := [0]) (mfm.wI (by decide)) (by decide)
  obtain ⟨L, C1, C2, C3, C4, C5, C6, C7, C8, C9⟩ := id I.1
  obtain ⟨c1, c2, -⟩ := id (C8 (tH t) hd4)
  obtain ⟨M1, M2, M3, M4, M5, M6, M7, M8, M9, M10, M11⟩ := id I0.2.1
  obtain ⟨-, R, r1, -, r2⟩ := C9 (tJ t) W6
  have e1 : ∀ y, y = (if a = 0 then some (nI (tC t), X) else if a = 1 then some (nI (tH t), X) else if a = 2 then some (nI (dW (tD t (tH t))), X) else if a = 3 then some (nI (dZ (tD t (tH t))), X) else if a = 4 then some (nI (tJ t), X) else if a = 5 then some (nI (qN (tM t (tJ t))), X) else if a = 6 then some (nI (tT t), X) else if a = 7 then some (nI (mkN (tD t (tH t))), X) else some ((-1), X)) → fX9_count v a X = y := by
    rintro y rfl
    have l8 := L.2.2.2.1
    have k3 : xKd X (v + 3) = 8 := by
      obtain ⟨l1, l2, l3, l4, l5, l6, l7, l8, l9, l10, l11, l12, l13, l14, l15, l16, l17, l18, l19⟩ := L
      exact l12
    unfold fX9_count
    rw [gR_of L.1 L.2.1, sb, gI_of L.1, sb, C2, (L.rd hd4).1, sb, gI_of L.1, sb, C1, sb, dI (L.rd hd4).2, sb, c1, dI (L.rd hd4).2, sb, c2, gI_of L.1, sb, C3, gR_of L.1 L.2.2.1, sb, sb, (L.mn W6).1, sb, gR_of (L.mn W6).2 r1, sb, gI_of r2.1.1, sb, r2.2.1, gR_of L.1 l8, sb, gI_of k3, sb, C7.1, dK (L.rd hd4).2, sb, f_markCount (L.rd hd4).2 (C8 _ hd4) Wd, sb]
  have e2 : ∀ y, y = (if a = 0 then some (nI (tC t), wI X (v + 127) 0 0) else if a = 1 then some (nI (tH t), wI X (v + 127) 0 0) else if a = 2 then some (nI (dW (tD t (tH t))), wI X (v + 127) 0 0) else if a = 3 then some (nI (dZ (tD t (tH t))), wI X (v + 127) 0 0) else if a = 4 then some (nI (tJ t), wI X (v + 127) 0 0) else if a = 5 then some (nI (qN (tM t (tJ t))), wI X (v + 127) 0 0) else if a = 6 then some (nI (tT t), wI X (v + 127) 0 0) else if a = 7 then some (nI (mkN (tD t (tH t))), wI X (v + 127) 0 0) else some ((-1), wI X (v + 127) 0 0)) → fX10_count (v + 127) a X = y := by
    rintro y rfl
    unfold fX10_count
    rw [pI_M I.2.1.1, sb, gI_M M1, sb, M3, Lt240, nI_mul, m_co16 M1 hd4 M3 (M9 _ W3) Wd, sb]
    try dsimp only
    rw [gI_M M1, sb, M2, gI_M M1, sb, M3, rM30 M1, sb, sb, aM30 M1 hd4, sb, (M9 _ W3).1, sb, gK_M M1, sb, m_soundsOf M1 hd4 (M9 _ W3) Wd, sb]
    try dsimp only
    rw [gI_M M1, sb, M4, rM14 M1, sb, sb, aM14 M1 (by omega), sb, (M10 _ W6).2.1, gI_M M1, sb, M8.1]
  by_cases a0 : a = 0
  · exact ⟨_, X, _, e1 _ (by rw [if_pos a0]), e2 _ (by rw [if_pos a0]), I0⟩
  by_cases a1 : a = 1
  · exact ⟨_, X, _, e1 _ (by rw [if_neg a0, if_pos a1]), e2 _ (by rw [if_neg a0, if_pos a1]), I0⟩
  by_cases a2 : a = 2
  · exact ⟨_, X, _, e1 _ (by rw [if_neg a0, if_neg a1, if_pos a2]), e2 _ (by rw [if_neg a0, if_neg a1, if_pos a2]), I0⟩
  by_cases a3 : a = 3
  · exact ⟨_, X, _, e1 _ (by rw [if_neg a0, if_neg a1, if_neg a2, if_pos a3]), e2 _ (by rw [if_neg a0, if_neg a1, if_neg a2, if_pos a3]), I0⟩
  by_cases a4 : a = 4
  · exact ⟨_, X, _, e1 _ (by rw [if_neg a0, if_neg a1, if_neg a2, if_neg a3, if_pos a4]), e2 _ (by rw [if_neg a0, if_neg a1, if_neg a2, if_neg a3, if_pos a4]), I0⟩
  by_cases a5 : a = 5
  · exact ⟨_, X, _, e1 _ (by rw [if_neg a0, if_neg a1, if_neg a2, if_neg a3, if_neg a4, if_pos a5]), e2 _ (by rw [if_neg a0, if_neg a1, if_neg a2, if_neg a3, if_neg a4, if_pos a5]), I0⟩
  by_cases a6 : a = 6
  · exact ⟨_, X, _, e1 _ (by rw [if_neg a0, if_neg a1, if_neg a2, if_neg a3, if_neg a4, if_neg a5, if_pos a6]), e2 _ (by rw [if_neg a0, if_neg a1, if_neg a2, if_neg a3, if_neg a4, if_neg a5, if_pos a6]), I0⟩
  by_cases a7 : a = 7
  · exact ⟨_, X, _, e1 _ (by rw [if_neg a0, if_neg a1, if_neg a2, if_neg a3, if_neg a4, if_neg a5, if_neg a6, if_pos a7]), e2 _ (by rw [if_neg a0, if_neg a1, if_neg a2, if_neg a3, if_neg a4, if_neg a5, if_neg a6, if_pos a7]), I0⟩
  · exact ⟨_, X, _, e1 _ (by rw [if_neg a0, if_neg a1, if_neg a2, if_neg a3, if_neg a4, if_neg a5, if_neg a6, if_neg a7]), e2 _ (by rw [if_neg a0, if_neg a1, if_neg a2, if_neg a3, if_neg a4, if_neg a5, if_neg a6, if_neg a7]), I0⟩
end Chg
