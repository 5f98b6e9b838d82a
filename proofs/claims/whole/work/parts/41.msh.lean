/-! the reference: marks, span, slope; what is told; fit -/
def MMn (X : XW) (o m lo hi sl : Nat) : Prop := xA X (mA o 11) m = nI lo ∧ xA X (mA o 12) m = nI hi ∧ xA X (mA o 13) m = nI sl
theorem MMn.mf {X X1 : XW} {o m lo hi sl : Nat} {K : List Nat} (h : MMn X o m lo hi sl) (F : mfm o K X X1) (hK : ∀ k, k ∈ K → k ∉ [11, 12, 13]) : MMn X1 o m lo hi sl := by
  have e : ∀ k, k ∈ [11, 12, 13] → k ∉ K := fun k hk q => hK k q hk
  unfold MMn
  rw [F.A (k := 11) (e 11 (by decide)) (by decide) (by decide), F.A (k := 12) (e 12 (by decide)) (by decide) (by decide), F.A (k := 13) (e 13 (by decide)) (by decide) (by decide)]
  exact h
theorem mk_ge {d : Rd} {w i : Nat} (W : WRd d) (hw : w < 3) (hi : i < 80) : (0 ≤ dM d w i) = (¬ dM d w i = -1) := by
  rcases W.2.2.2.1 w i hw hi with e | ⟨n, hn, e⟩
  · rw [e]; decide
  · rw [e]
    refine propext ⟨fun _ q => ?_, fun _ => nI_pos' (by omega)⟩
    have := nI_pos (n := n) (by omega)
    rw [q] at this
    exact this (by decide)
theorem mk_lt {d : Rd} {w i : Nat} (W : WRd d) (hw : w < 3) (hi : i < 80) : (dM d w i < 0) = (dM d w i = -1) := by
  rcases W.2.2.2.1 w i hw hi with e | ⟨n, hn, e⟩
  · rw [e]; decide
  · rw [e]
    refine propext ⟨fun q => absurd q (nI_pos (by omega)), fun q => ?_⟩
    rw [q]; decide
theorem abs_sl {a b sl : Nat} (ha : a ≤ 99) (hb : b ≤ 99) (hs : sl ≤ 99) : nI sl < iAb (nI a - nI b) ↔ (nI sl < nI a - nI b ∨ nI a - nI b < - nI sl) := by
  have e1 : - nI sl = nI 0 - nI sl := by rw [nI_0, Int32.zero_sub]
  have e2 : (0 : Int32) - (nI a - nI b) = nI b - nI a := by rw [Int32.zero_sub, Int32.neg_sub]
  have s1 : (nI a - nI b).toInt = (a : Int) - b := subT (by omega) (by omega)
  have s2 : (nI b - nI a).toInt = (b : Int) - a := subT (by omega) (by omega)
  have s3 : (nI 0 - nI sl).toInt = ((0 : Nat) : Int) - sl := subT (by omega) (by omega)
  have s4 : (nI sl).toInt = (sl : Int) := nI_toInt (by omega)
  unfold iAb
  rw [e1]
  by_cases h : (0 : Int32) ≤ nI a - nI b
  · rw [if_pos h]
    rw [Int32.le_iff_toInt_le, s1, show (0 : Int32).toInt = 0 by decide] at h
    rw [Int32.lt_iff_toInt_lt, Int32.lt_iff_toInt_lt, s1, s3, s4]
    omega
  · rw [if_neg h, e2]
    rw [Int32.le_iff_toInt_le, s1, show (0 : Int32).toInt = 0 by decide] at h
    rw [Int32.lt_iff_toInt_lt, Int32.lt_iff_toInt_lt, Int32.lt_iff_toInt_lt, s1, s2, s3, s4]
    omega
/-- a syllable's three values in the end -/
def GG (d : Rd) (id lo hi sl N : Nat) (ls : Nat → Ln) (i w : Nat) : Int32 := if w = 1 then hF d sl (dZ d) (fun j => gm d lo hi (sv d id ls N) j 1) i else gm d lo hi (sv d id ls N) i w
section MSh
variable {X : XW} {o r id m lo hi sl : Nat} {d : Rd}
theorem m_handOf (L : LM X o) (hr : r < 4) (R : MRd X o r d) {i w : Nat} (hi : i < 80) (hw : w < 3) : fX10_handOf o (nI r) (nI i) (nI w) X = some (dM d w i, X) := by
  unfold fX10_handOf
  rw [rM37 L, sb, Lt80, nI_mul, nI_add, Lt3, nI_mul, nI_add, aM37 L (by omega), sb, R.2.2.2 w i hw hi]
theorem m_nears (L : LM X o) (hr : r < 4) (R : MRd X o r d) (W : WRd d) (hm4 : m < 4) (hm : xI X o 10 = nI m) (M : MMn X o m lo hi sl) {i t : Nat} (hi : i < 80) (ht : t < 80) : fX10_nears o (nI r) (nI i) (nI t) X = some (if dM d 1 i = -1 then wF X (mA o 52) (va_up (xA X (mA o 52)) (3 * i + 1) (wi (xA X (mA o 52) (3 * i + 1)) (xA X (mA o 52) (3 * t + 1) - nI sl) (xA X (mA o 52) (3 * t + 1) + nI sl))) else X) := by
  have h37 : fX10_handOf o (nI r) (nI i) 1 X = some (dM d 1 i, X) := m_handOf (w := 1) L hr R hi (by decide)
  have m3 := M.2.2
  unfold fX10_nears
  rw [gK_M L, sb, h37, sb]
  dsimp only
  by_cases h : dM d 1 i = -1
  · rw [if_neg (by rw [h]; decide), if_pos h, rM52 L, sb, Lt3, nI_mul, nI_1, aM52 L (by omega), sb, sb, sb, nI_mul, nI_1, aM52 L (by omega), sb, rM13 L, sb, gI_M L, sb, hm, aM13 L hm4, sb, sb, sb, aM13 L hm4, sb, m3, m_within, sb]
    dsimp only
    rw [uM52 L (by omega), sb]
  · rw [if_pos (by rw [mk_ge W (by decide) hi]; exact h), if_neg h]
theorem m_sh58 (L : LM X o) (hr : r < 4) (R : MRd X o r d) (W : WRd d) (hm4 : m < 4) (hm : xI X o 10 = nI m) (M : MMn X o m lo hi sl) {i : Nat} (hi8 : i < 80) {g : Nat → Nat → Int32} (hg : ∀ w, w < 3 → xA X (mA o 52) (3 * i + w) = g i w) : fX10_shapes_l58 o (nI r) (nI i) FU 0 X = some (wF X (mA o 52) (cpF (xA X (mA o 52)) (fun j => gm d lo hi g i (j - 3 * i)) (3 * i) 3)) := by
  have hl := iter2 (b := fun rec => fX10_shapes_l58_b rec o (nI r) (nI i)) (z := fun _ _ => none) (s1 := nI) (sX := fun k => wF X (mA o 52) (cpF (xA X (mA o 52)) (fun j => gm d lo hi g i (j - 3 * i)) (3 * i) k)) (N := 3) (res := wF X (mA o 52) (cpF (xA X (mA o 52)) (fun j => gm d lo hi g i (j - 3 * i)) (3 * i) 3))
    (fun w hw rec => by
      generalize hY : wF X (mA o 52) (cpF (xA X (mA o 52)) (fun j => gm d lo hi g i (j - 3 * i)) (3 * i) w) = Y
      have F : mfm o [52] X Y := by rw [← hY]; exact mfm.wF (by decide) (by decide) (by decide)
      have L1 := L.mf F
      have M1 := M.mf F (by decide)
      have hm1 : xI Y o 10 = nI m := by rw [F.I (by decide)]; exact hm
      have h37 := m_handOf (w := w) L1 hr (R.mf F (by decide)) hi8 hw
      have a1 : ∀ j, w ≤ j → j < 3 → xA Y (mA o 52) (3 * i + j) = g i j := fun j h1 h2 => by
        rw [← hY, xA_wFe, ← hg j h2]
        exact if_neg (by omega)
      have fin : ∀ x, x = gm d lo hi g i w → fX10_shapes_j141 rec o (nI r) (nI i) (nI w) x (nI (3 * i + w)) (mA o 52) Y = rec (nI (w + 1)) (wF X (mA o 52) (cpF (xA X (mA o 52)) (fun j => gm d lo hi g i (j - 3 * i)) (3 * i) (w + 1))) := by
        rintro x rfl
        unfold fX10_shapes_j141
        rw [uM52 L1 (by omega), sb, nI_1, ← hY, wF_wF, xA_wFe, ← cpF_s, Nat.add_sub_cancel_left]
      unfold fX10_shapes_l58_b
      rw [if_neg (show ¬ (3 : Int32) ≤ nI w from nI_ge (b := 3) hw (by decide)), rM52 L1, sb, gK_M L1, sb, h37, sb]
      dsimp only
      by_cases h : dM d w i = -1
      · rw [if_pos (by rw [h]; decide)]
        by_cases h1 : w = 1
        · subst h1
          rw [if_pos (show nI 1 = (1 : Int32) from rfl), rM52 L1, sb, Lt3, nI_mul, nI_1, aM52 L1 (by omega), sb, rM11 L1, sb, gI_M L1, sb, hm1, aM11 L1 hm4, sb, rM12 L1, sb, sb, aM12 L1 hm4, sb, m_within, sb]
          dsimp only
          rw [nI_add]
          refine fin _ ?_
          rw [M1.1, M1.2.1, a1 1 (by omega) (by omega)]
          unfold gm
          rw [if_pos h, if_pos rfl]
        · rw [if_neg (show ¬ nI w = (1 : Int32) from fun q => h1 ((nI_eq (b := 1) (by omega) (by decide)).mp q)), rM52 L1, sb, Lt3, nI_mul, nI_add, aM52 L1 (by omega), sb]
          have := fin (gm d lo hi g i w) rfl
          rw [a1 w (by omega) hw, ← this]
          unfold gm
          rw [if_pos h, if_neg h1]
      · rw [if_neg (by rw [mk_lt W hw hi8]; exact h), gK_M L1, sb, h37, sb]
        dsimp only
        rw [Lt3, nI_mul, nI_add]
        exact fin _ (by unfold gm; rw [if_neg h]))
    (fun rec => by
      unfold fX10_shapes_l58_b
      rw [if_pos (by decide)]) (n := FU) (FUlt (by decide))
  simp only [cpF_0, wF_self] at hl
  exact hl
theorem m_sh48 (L : LM X o) (hr : r < 4) (R : MRd X o r d) (W : WRd d) (hm4 : m < 4) (hm : xI X o 10 = nI m) (M : MMn X o m lo hi sl) (hz : xI X o 47 = nI (dZ d)) {g : Nat → Nat → Int32} (V : MVal X o d g) :
    ∃ X1, fX10_shapes_l48 o (nI r) FU 0 X = some X1 ∧ mfm o [52] X X1 ∧ MVal X1 o d (gm d lo hi g) := by
  have W80 := W.z
  have key := iterP2 (b := fun rec => fX10_shapes_l48_b rec o (nI r)) (z := fun _ _ => none) (fun q a Z => ∃ i, i ≤ dZ d ∧ q = dZ d - i ∧ a = nI i ∧ mfm o [52] X Z ∧ ∀ j w, j < dZ d → w < 3 → xA Z (mA o 52) (3 * j + w) = if j < i then gm d lo hi g j w else g j w) (fun X1 => mfm o [52] X X1 ∧ MVal X1 o d (gm d lo hi g)) ?_ FU (dZ d) (nI 0) X (FUlt (by omega)) ⟨0, Nat.zero_le _, rfl, rfl, mfm.rf, fun j w hj hw => by rw [if_neg (by omega)]; exact V j w hj hw⟩
  · exact key
  rintro q a Z ⟨i, hi', rfl, rfl, F, hv⟩
  have L1 := L.mf F
  have z0 : xI Z o 47 = nI (dZ d) := by rw [F.I (by decide)]; exact hz
  by_cases hii : i = dZ d
  · left
    subst hii
    refine ⟨Z, fun rec => ?_, F, fun j w hj hw => by rw [hv j w hj hw, if_pos hj]⟩
    unfold fX10_shapes_l48_b
    rw [gI_M L1, sb, z0, if_pos (nI_le (Nat.le_refl _) (by omega))]
  · right
    have h58 := m_sh58 L1 hr (R.mf F (by decide)) W hm4 (by rw [F.I (by decide)]; exact hm) (M.mf F (by decide)) (i := i) (by omega) (g := g) (fun w hw => by rw [hv i w (by omega) hw, if_neg (by omega)])
    refine ⟨dZ d - (i + 1), nI (i + 1), _, by omega, ⟨i + 1, by omega, rfl, rfl, F.tr (mfm.wF (k := 52) (f := cpF (xA Z (mA o 52)) (fun j => gm d lo hi g i (j - 3 * i)) (3 * i) 3) (by decide) (by decide) (by decide)), fun j w hj hw => ?_⟩, fun rec => ?_⟩
    · rw [xA_wFe]
      unfold cpF
      by_cases hji : j = i
      · subst hji
        rw [if_pos (by omega), if_pos (by omega)]
        dsimp only
        rw [Nat.add_sub_cancel_left]
      · rw [if_neg (by omega), hv j w hj hw]
        by_cases q : j < i
        · rw [if_pos q, if_pos (by omega)]
        · rw [if_neg q, if_neg (by omega)]
    · unfold fX10_shapes_l48_b
      rw [gI_M L1, sb, z0, if_neg (nI_ge (by omega) (by omega)), h58, sb, nI_1]
theorem m_sh156 (L : LM X o) (hr : r < 4) (R : MRd X o r d) (W : WRd d) (hm4 : m < 4) (hm : xI X o 10 = nI m) (M : MMn X o m lo hi sl) (hz : xI X o 47 = nI (dZ d)) {g : Nat → Nat → Int32} (V : MVal X o d g) :
    ∃ X1, fX10_shapes_l156 o (nI r) FU 1 X = some X1 ∧ mfm o [52] X X1 ∧ MVal X1 o d (fun i w => if w = 1 then fwd d sl (fun j => g j 1) i else g i w) := by
  have W80 := W.z
  have key := iterP2 (b := fun rec => fX10_shapes_l156_b rec o (nI r)) (z := fun _ _ => none) (fun q a Z => ∃ k, (k + 1 ≤ dZ d ∨ k = 0) ∧ q = dZ d - k ∧ a = nI (k + 1) ∧ mfm o [52] X Z ∧ ∀ j w, j < dZ d → w < 3 → xA Z (mA o 52) (3 * j + w) = if w = 1 then mx (fwd d sl (fun j => g j 1)) (fun j => g j 1) (k + 1) j else g j w) (fun X1 => mfm o [52] X X1 ∧ MVal X1 o d (fun i w => if w = 1 then fwd d sl (fun j => g j 1) i else g i w)) ?_ FU (dZ d) (nI (0 + 1)) X (FUlt (by omega)) ⟨0, Or.inr rfl, rfl, rfl, mfm.rf, fun j w hj hw => by
    have e0 : mx (fwd d sl (fun j => g j 1)) (fun j => g j 1) (0 + 1) = fun j => g j 1 := (mx_n (a := fwd d sl (fun j => g j 1)) (b := fun j => g j 1) (k := 0) rfl).trans mx_0
    rw [e0, V j w hj hw]
    by_cases h : w = 1
    · rw [if_pos h, h]
    · rw [if_neg h]⟩
  · exact key
  rintro q a Z ⟨k, hk, rfl, rfl, F, hv⟩
  have L1 := L.mf F
  have z0 : xI Z o 47 = nI (dZ d) := by rw [F.I (by decide)]; exact hz
  by_cases hii : dZ d ≤ k + 1
  · left
    refine ⟨Z, fun rec => ?_, F, fun j w hj hw => ?_⟩
    · unfold fX10_shapes_l156_b
      rw [gI_M L1, sb, z0, if_pos (nI_le hii (by omega))]
    · rw [hv j w hj hw]
      dsimp only
      by_cases h : w = 1
      · rw [if_pos h, if_pos h]
        exact if_pos (by omega)
      · rw [if_neg h, if_neg h]
  · right
    have hn := m_nears L1 hr (R.mf F (by decide)) W hm4 (by rw [F.I (by decide)]; exact hm) (M.mf F (by decide)) (i := k + 1) (t := k) (by omega) (by omega)
    have v1 : xA Z (mA o 52) (3 * (k + 1) + 1) = g (k + 1) 1 := by
      rw [hv (k + 1) 1 (by omega) (by decide), if_pos rfl]
      exact if_neg (Nat.lt_irrefl _)
    have v2 : xA Z (mA o 52) (3 * k + 1) = fwd d sl (fun j => g j 1) k := by
      rw [hv k 1 (by omega) (by decide), if_pos rfl]
      exact if_pos (Nat.lt_succ_self _)
    rw [v1, v2] at hn
    generalize hZ1 : (if dM d 1 (k + 1) = -1 then wF Z (mA o 52) (va_up (xA Z (mA o 52)) (3 * (k + 1) + 1) (wi (g (k + 1) 1) (fwd d sl (fun j => g j 1) k - nI sl) (fwd d sl (fun j => g j 1) k + nI sl))) else Z) = Z1 at hn
    refine ⟨dZ d - (k + 1), nI (k + 1 + 1), Z1, by omega, ⟨k + 1, by omega, rfl, rfl, ?_, fun j w hj hw => ?_⟩, fun rec => ?_⟩
    · rw [← hZ1]
      split
      · exact F.tr (mfm.wF (by decide) (by decide) (by decide))
      · exact F
    · have hmx : ∀ x, x = fwd d sl (fun j => g j 1) (k + 1) → (if w = 1 then mx (fwd d sl (fun j => g j 1)) (fun j => g j 1) (k + 1 + 1) j else g j w) = va_up (xA Z (mA o 52)) (3 * (k + 1) + 1) x (3 * j + w) := by
        rintro x rfl
        by_cases e : 3 * j + w = 3 * (k + 1) + 1
        · have e1 : j = k + 1 := by omega
          have e2 : w = 1 := by omega
          rw [e, upE, if_pos e2, e1]
          exact if_pos (by omega)
        · rw [upN e, hv j w hj hw]
          by_cases h : w = 1
          · rw [if_pos h, if_pos h]
            unfold mx
            by_cases q : j < k + 1
            · rw [if_pos q, if_pos (by omega)]
            · rw [if_neg q, if_neg (by omega)]
          · rw [if_neg h, if_neg h]
      rw [← hZ1]
      by_cases hmm : dM d 1 (k + 1) = -1
      · rw [if_pos hmm, xA_wFe]
        exact (hmx _ (if_pos hmm).symm).symm
      · rw [if_neg hmm, hmx (g (k + 1) 1) (if_neg hmm).symm]
        by_cases e : 3 * j + w = 3 * (k + 1) + 1
        · rw [e, upE, v1]
        · rw [upN e]
    · unfold fX10_shapes_l156_b
      rw [gI_M L1, sb, z0, if_neg (nI_ge (by omega) (by omega)), gK_M L1, sb, nI_pred, hn, sb, nI_1]
theorem m_sh186 (L : LM X o) (hr : r < 4) (R : MRd X o r d) (W : WRd d) (hm4 : m < 4) (hm : xI X o 10 = nI m) (M : MMn X o m lo hi sl) {g : Nat → Nat → Int32} (V : MVal X o d g) :
    ∃ X1, fX10_shapes_l186 o (nI r) FU (nI (dZ d) - 2) X = some X1 ∧ mfm o [52] X X1 ∧ MVal X1 o d (fun i w => if w = 1 then bA d sl (dZ d) (fun j => g j 1) i else g i w) := by
  have W80 := W.z
  by_cases h0 : dZ d = 0
  · refine ⟨X, ?_, mfm.rf, fun j w hj => absurd hj (by omega)⟩
    rw [h0]
    exact iter2 (b := fun rec => fX10_shapes_l186_b rec o (nI r)) (z := fun _ _ => none) (s1 := fun _ => nI 0 - 2) (sX := fun _ => X) (N := 0) (res := X) (fun k hk => absurd hk (Nat.not_lt_zero _)) (fun rec => by
      unfold fX10_shapes_l186_b
      rw [if_pos (by decide)]) (n := FU) (FUlt (by decide))
  have key := iterP2 (b := fun rec => fX10_shapes_l186_b rec o (nI r)) (z := fun _ _ => none) (fun q a Z => ∃ k, k + 1 ≤ dZ d ∧ q = dZ d - k ∧ a = nI (dZ d - 1 - k) + (-1) ∧ mfm o [52] X Z ∧ ∀ j w, j < dZ d → w < 3 → xA Z (mA o 52) (3 * j + w) = if w = 1 then my (bA d sl (dZ d) (fun j => g j 1)) (fun j => g j 1) (dZ d) (k + 1) j else g j w) (fun X1 => mfm o [52] X X1 ∧ MVal X1 o d (fun i w => if w = 1 then bA d sl (dZ d) (fun j => g j 1) i else g i w)) ?_ FU (dZ d) (nI (dZ d - 1 - 0) + (-1)) X (FUlt (by omega)) ⟨0, by omega, rfl, rfl, mfm.rf, fun j w hj hw => by
    have e0 : my (bA d sl (dZ d) (fun j => g j 1)) (fun j => g j 1) (dZ d) (0 + 1) = fun j => g j 1 := my_1 (by
      unfold bA
      rw [Nat.sub_self]
      rfl)
    rw [e0, V j w hj hw]
    by_cases h : w = 1
    · rw [if_pos h, h]
    · rw [if_neg h]⟩
  · rw [m2m1 (by omega)]
    exact key
  rintro q a Z ⟨k, hk, rfl, rfl, F, hv⟩
  have L1 := L.mf F
  by_cases hii : k + 1 = dZ d
  · left
    refine ⟨Z, fun rec => ?_, F, fun j w hj hw => ?_⟩
    · unfold fX10_shapes_l186_b
      rw [show dZ d - 1 - k = 0 by omega, if_pos (by decide)]
    · rw [hv j w hj hw]
      dsimp only
      by_cases h : w = 1
      · rw [if_pos h, if_pos h]
        exact if_pos (by omega)
      · rw [if_neg h, if_neg h]
  · right
    generalize hn0 : dZ d = n at *
    have e1 : n - 1 - (k + 1) = n - (k + 1 + 1) := by omega
    have hn := m_nears L1 hr (R.mf F (by decide)) W hm4 (by rw [F.I (by decide)]; exact hm) (M.mf F (by decide)) (i := n - (k + 1 + 1)) (t := n - (k + 1)) (by omega) (by omega)
    have v1 : xA Z (mA o 52) (3 * (n - (k + 1 + 1)) + 1) = g (n - (k + 1 + 1)) 1 := by
      rw [hv (n - (k + 1 + 1)) 1 (by omega) (by decide), if_pos rfl]
      exact if_neg (by omega)
    have v2 : xA Z (mA o 52) (3 * (n - (k + 1)) + 1) = bk d sl n (fun j => g j 1) k := by
      rw [hv (n - (k + 1)) 1 (by omega) (by decide), if_pos rfl, show my (bA d sl n (fun j => g j 1)) (fun j => g j 1) n (k + 1) (n - (k + 1)) = bA d sl n (fun j => g j 1) (n - (k + 1)) from if_pos (by omega)]
      unfold bA
      rw [show n - 1 - (n - (k + 1)) = k by omega]
    have e2 : bA d sl n (fun j => g j 1) (n - (k + 1 + 1)) = bk d sl n (fun j => g j 1) (k + 1) := by
      unfold bA
      rw [show n - 1 - (n - (k + 1 + 1)) = k + 1 by omega]
    have e3 : bk d sl n (fun j => g j 1) (k + 1) = if dM d 1 (n - (k + 1 + 1)) = -1 then wi (g (n - (k + 1 + 1)) 1) (bk d sl n (fun j => g j 1) k - nI sl) (bk d sl n (fun j => g j 1) k + nI sl) else g (n - (k + 1 + 1)) 1 := by
      show (if dM d 1 (n - 1 - (k + 1)) = -1 then wi (g (n - 1 - (k + 1)) 1) (bk d sl n (fun j => g j 1) k - nI sl) (bk d sl n (fun j => g j 1) k + nI sl) else g (n - 1 - (k + 1)) 1) = _
      rw [e1]
    rw [v1, v2] at hn
    generalize hZ1 : (if dM d 1 (n - (k + 1 + 1)) = -1 then wF Z (mA o 52) (va_up (xA Z (mA o 52)) (3 * (n - (k + 1 + 1)) + 1) (wi (g (n - (k + 1 + 1)) 1) (bk d sl n (fun j => g j 1) k - nI sl) (bk d sl n (fun j => g j 1) k + nI sl))) else Z) = Z1 at hn
    refine ⟨n - (k + 1), nI (n - 1 - (k + 1)) + (-1), Z1, by omega, ⟨k + 1, by omega, rfl, rfl, ?_, fun j w hj hw => ?_⟩, fun rec => ?_⟩
    · rw [← hZ1]
      split
      · exact F.tr (mfm.wF (by decide) (by decide) (by decide))
      · exact F
    · have hmx : ∀ x, x = bA d sl n (fun j => g j 1) (n - (k + 1 + 1)) → (if w = 1 then my (bA d sl n (fun j => g j 1)) (fun j => g j 1) n (k + 1 + 1) j else g j w) = va_up (xA Z (mA o 52)) (3 * (n - (k + 1 + 1)) + 1) x (3 * j + w) := by
        rintro x rfl
        by_cases e : 3 * j + w = 3 * (n - (k + 1 + 1)) + 1
        · have e4 : j = n - (k + 1 + 1) := by omega
          have e5 : w = 1 := by omega
          rw [e, upE, if_pos e5, e4]
          exact if_pos (by omega)
        · rw [upN e, hv j w hj hw]
          by_cases h : w = 1
          · rw [if_pos h, if_pos h]
            unfold my
            by_cases q : n - (k + 1) ≤ j ∧ j < n
            · rw [if_pos q, if_pos (by omega)]
            · rw [if_neg q, if_neg (by omega)]
          · rw [if_neg h, if_neg h]
      rw [← hZ1]
      by_cases hmm : dM d 1 (n - (k + 1 + 1)) = -1
      · rw [if_pos hmm, xA_wFe]
        exact (hmx _ (by rw [e2, e3, if_pos hmm])).symm
      · rw [if_neg hmm, hmx (g (n - (k + 1 + 1)) 1) (by rw [e2, e3, if_neg hmm])]
        by_cases e : 3 * j + w = 3 * (n - (k + 1 + 1)) + 1
        · rw [e, upE, v1]
        · rw [upN e]
    · unfold fX10_shapes_l186_b
      rw [nI_m1 (by omega), show n - 1 - k - 1 = n - (k + 1 + 1) by omega, if_neg (nI_pos (by omega)), gK_M L1, sb, nI_1, show n - (k + 1 + 1) + 1 = n - (k + 1) by omega, hn, sb, e1]
theorem MVal.mf {X1 : XW} {K : List Nat} {g : Nat → Nat → Int32} (V : MVal X o d g) (F : mfm o K X X1) (hK : 52 ∉ K) : MVal X1 o d g := by
  unfold MVal
  rw [F.A (k := 52) hK (by decide) (by decide)]
  exact V
theorem m_shapes (L : LM X o) (hr : r < 4) (R : MRd X o r d) (W : WRd d) (hid : xI X o 38 = nI id) (hid2 : id ≤ 20) (hm4 : m < 4) (hm : xI X o 10 = nI m) (M : MMn X o m lo hi sl) {N : Nat} {ls : Nat → Ln} (U : MRu X o m N ls) (hl : ∀ n, n < N → okL (ls n)) :
    ∃ X1, fX10_shapes o (nI r) X = some X1 ∧ mfm o [26, 27, 41, 42, 43, 44, 45, 46, 47, 48, 49, 50, 51, 52] X X1 ∧ MLay X1 o d id ∧ MVal X1 o d (GG d id lo hi sl N ls) := by
  obtain ⟨Y1, y1, F1, P1, V1⟩ := m_setsOut L hr R W hid hid2
  have G1 : mfm o [26, 27, 41, 42, 43, 44, 45, 46, 47, 48, 49, 50, 51, 52] X Y1 := F1.wk (by decide)
  have L1 := L.mf F1
  have R1 := R.mf F1 (by decide)
  have hm1 : xI Y1 o 10 = nI m := by rw [F1.I (by decide)]; exact hm
  have V1' : MVal Y1 o d (sv d id ls 0) := fun i w hi hw => by
    obtain ⟨a1, a2, a3⟩ := V1 i hi
    match w, hw with
    | 0, _ => exact a1
    | 1, _ => exact a2
    | 2, _ => exact a3
  obtain ⟨Y2, y2, F2, V2⟩ := m_sh13 L1 hr R1 W P1 hm4 hm1 (U.mf F1 (by decide)) hl V1'
  have G2 := G1.tr (F2.wk (by decide))
  have L2 := L1.mf F2
  have P2 := P1.mf F2 (by decide)
  have hm2 : xI Y2 o 10 = nI m := by rw [F2.I (by decide)]; exact hm1
  have M2 := (M.mf F1 (by decide)).mf F2 (by decide)
  obtain ⟨Y3, y3, F3, V3⟩ := m_sh48 L2 hr (R1.mf F2 (by decide)) W hm4 hm2 M2 P2.2.1 V2
  have P3 := P2.mf F3 (by decide)
  have hm3 : xI Y3 o 10 = nI m := by rw [F3.I (by decide)]; exact hm2
  obtain ⟨Y4, y4, F4, V4⟩ := m_sh156 (L2.mf F3) hr ((R1.mf F2 (by decide)).mf F3 (by decide)) W hm4 hm3 (M2.mf F3 (by decide)) P3.2.1 V3
  have P4 := P3.mf F4 (by decide)
  have hm4' : xI Y4 o 10 = nI m := by rw [F4.I (by decide)]; exact hm3
  obtain ⟨Y5, y5, F5, V5⟩ := m_sh186 ((L2.mf F3).mf F4) hr (((R1.mf F2 (by decide)).mf F3 (by decide)).mf F4 (by decide)) W hm4 hm4' ((M2.mf F3 (by decide)).mf F4 (by decide)) V4
  refine ⟨Y5, ?_, ((G2.tr (F3.wk (by decide))).tr (F4.wk (by decide))).tr (F5.wk (by decide)), P4.mf F5 (by decide), fun i w hi hw => ?_⟩
  · unfold fX10_shapes
    rw [gK_M L, sb, y1, sb, gI_M L1, sb, hm1, Lt24, nI_mul, y2, sb, show fX10_shapes_l48 o (nI r) FU 0 Y2 = some Y3 from y3, sb, show fX10_shapes_l156 o (nI r) FU 1 Y3 = some Y4 from y4, sb, gI_M ((L2.mf F3).mf F4), sb, P4.2.1, y5, sb]
  · rw [V5 i w hi hw]
    dsimp only
    unfold GG
    by_cases h : w = 1
    · rw [if_pos h, if_pos h]
      rfl
    · rw [if_neg h, if_neg h, if_neg h]
theorem m_told (L : LM X o) (W : WRd d) {G : Nat → Nat → Int32} (V : MVal X o d G) {P Q : Nat} (hP : xI X o 39 = nI P) (hQ : xI X o 40 = nI Q) (hQ1 : 0 < Q) (hQ2 : Q ≤ 100) {i : Nat} (hi : i < dZ d) : fX10_told o (nI i) X = some (tq (nI P) (nI Q) (fun j => G j 0) (i + 1) - tq (nI P) (nI Q) (fun j => G j 0) i, X) := by
  have W80 := W.z
  have hQ0 : ¬ nI Q = 0 := nI_ne0 hQ1 (by omega)
  have v0 : ∀ k, k < dZ d → xA X (mA o 52) (3 * k) = G k 0 := fun k hk => V k 0 hk (by decide)
  have hl := iter3 (b := fun rec => fX10_told_l4_b rec o (nI i)) (z := fun _ _ _ => none) (s1 := fun k => sm (fun j => G j 0) k) (s2 := nI) (sX := fun _ => X) (N := i) (res := (sm (fun j => G j 0) i, X))
    (fun k hk rec => by
      unfold fX10_told_l4_b
      rw [if_neg (nI_ge hk (by omega)), rM52 L, sb, Lt3, nI_mul, aM52 L (by omega), sb, v0 k (by omega), nI_1]
      rfl)
    (fun rec => by
      unfold fX10_told_l4_b
      rw [if_pos (nI_le (Nat.le_refl _) (by omega))]) (n := FU) (FUlt (by omega))
  unfold fX10_told
  rw [show fX10_told_l4 o (nI i) FU 0 0 X = _ from hl, sb]
  dsimp only
  rw [rM52 L, sb, Lt3, nI_mul, aM52 L (by omega), sb, v0 i hi, gI_M L, sb, gI_M L, sb, hP, hQ, iD_of hQ0, sb, sb, sb, iD_of hQ0, sb]
  rfl
theorem m_fit (L : LM X o) (hr : r < 4) (hh : xI X o 29 = nI r) (R : MRd X o r d) (W : WRd d) (hid : xI X o 38 = nI id) (hid2 : id ≤ 20) (hm4 : m < 4) (hm : xI X o 10 = nI m) (M : MMn X o m lo hi sl) (hlo : lo ≤ hi) (hhi : hi ≤ 99) (hsl : sl ≤ 99) {N : Nat} {ls : Nat → Ln} (U : MRu X o m N ls) (hl : ∀ n, n < N → okL (ls n)) :
    ∃ X1, fX10_fit o X = some (ft sl (fun i => GG d id lo hi sl N ls i 1) (dZ d - 1), X1) ∧ mfm o [0, 26, 27, 41, 42, 43, 44, 45, 46, 47, 48, 49, 50, 51, 52] X X1 := by
  have W80 := W.z
  have F0 : mfm o [0] X (wI X o 0 0) := mfm.wI (by decide)
  obtain ⟨Y, y1, FY, P, V⟩ := m_shapes (L.mf F0) hr (R.mf F0 (by decide)) W (by rw [F0.I (by decide)]; exact hid) hid2 hm4 (by rw [F0.I (by decide)]; exact hm) (M.mf F0 (by decide)) (U.mf F0 (by decide)) hl
  have LY := (L.mf F0).mf FY
  have hmY : xI Y o 10 = nI m := by rw [FY.I (by decide), F0.I (by decide)]; exact hm
  have MY := ((M.mf F0 (by decide)).mf FY (by decide)).2.2
  have z0 := P.2.1
  have hin : ∀ i, i < dZ d → inH (GG d id lo hi sl N ls i 1) := fun i hi => by
    unfold GG
    rw [if_pos rfl]
    exact hF_in hsl (fun j hj => gm_in W hlo hhi (by omega)) hi
  have v1 : ∀ k, k < dZ d → xA Y (mA o 52) (3 * k + 1) = GG d id lo hi sl N ls k 1 := fun k hk => V k 1 hk (by decide)
  generalize hG : (fun i => GG d id lo hi sl N ls i 1) = h
  have hin' : ∀ i, i < dZ d → inH (h i) := fun i hi => by rw [← hG]; exact hin i hi
  have v1' : ∀ k, k < dZ d → xA Y (mA o 52) (3 * k + 1) = h k := fun k hk => by rw [← hG]; exact v1 k hk
  have hlp := iter3 (b := fun rec => fX10_fit_l17_b rec o) (z := fun _ _ _ => none) (s1 := fun k => ft sl h k) (s2 := fun k => nI (k + 1)) (sX := fun _ => Y) (N := dZ d - 1) (res := (ft sl h (dZ d - 1), Y))
    (fun k hk rec => by
      obtain ⟨a, ha, ea⟩ := hin' (k + 1) (by omega)
      obtain ⟨b, hb, eb⟩ := hin' k (by omega)
      have e : ft sl h (k + 1) = b01 (¬ ft sl h k = 0 ∧ ¬ nI sl < iAb (h (k + 1) - h k)) := rfl
      have hab := abs_sl ha hb hsl
      rw [← ea, ← eb] at hab
      unfold fX10_fit_l17_b fX10_fit_j82 fX10_fit_j83
      rw [gI_M LY, sb, z0, if_neg (nI_ge (show k + 1 < dZ d by omega) (by omega)), rM52 LY, sb, Lt3, nI_mul, nI_1, aM52 LY (by omega), sb, v1' (k + 1) (by omega), sb, Lt2, nI_subI (by omega), show 3 * (k + 1) - 2 = 3 * k + 1 by omega, aM52 LY (by omega), sb, v1' k (by omega), nI_1]
      by_cases h0 : ft sl h k = 0
      · rw [if_pos h0, e, b01_n (fun q => q.1 h0)]
      · rw [if_neg h0, rM13 LY, sb, gI_M LY, sb, hmY, aM13 LY hm4, sb, MY, sb, sb, aM13 LY hm4, sb, MY]
        by_cases h1 : nI sl < h (k + 1) - h k
        · rw [if_pos h1, e, b01_n (fun q => q.2 (hab.mpr (Or.inl h1)))]
        · rw [if_neg h1]
          by_cases h2 : h (k + 1) - h k < - nI sl
          · rw [if_pos h2, e, b01_n (fun q => q.2 (hab.mpr (Or.inr h2)))]
          · rw [if_neg h2, e, b01_y ⟨h0, fun q => (hab.mp q).elim h1 h2⟩])
    (fun rec => by
      unfold fX10_fit_l17_b
      rw [gI_M LY, sb, z0, if_pos (nI_le (show dZ d ≤ dZ d - 1 + 1 by omega) (by omega))]) (n := FU) (FUlt (by omega))
  have h01 : ∀ k, ft sl h k = 0 ∨ ft sl h k = 1 := fun k => by
    cases k with
    | zero => exact Or.inr rfl
    | succ k => exact b01_01 _
  refine ⟨Y, ?_, (F0.wk (by decide)).tr (FY.wk (by decide))⟩
  unfold fX10_fit
  rw [pI_M L, sb, gI_M (L.mf F0), sb, F0.I (by decide), hh, gK_M (L.mf F0), sb, y1, sb, show fX10_fit_l17 o FU 1 1 Y = _ from hlp, sb]
  dsimp only
  rcases h01 (dZ d - 1) with e | e
  · rw [e, if_pos rfl]
  · rw [e, if_neg (by decide)]
end MSh
