/-! the reference applies lines -/
theorem m_within (n lo hi : Int32) (X : XW) : fX10_within n lo hi X = some (wi n lo hi, X) := by
  unfold fX10_within wi
  split
  · split <;> rfl
  · rfl
section MLi
variable {X : XW} {o r id : Nat} {d : Rd}
theorem m_w98 (L : LM X o) {i w : Nat} (hw : w < 3) (hi : i < 80) {rec : Int32 → XW → Option XW} {l1 l2 s0 s1 : Int32} : fX10_works_j98 rec o l1 l2 (nI i) (nI w) s0 s1 X = rec (nI (i + 1)) (wF X (mA o 52) (va_up (xA X (mA o 52)) (3 * i + w) (wi (s1 + s0) (xsv 3 w) (xsv 4 w)))) := by
  have h155 : ∀ x, fX10_works_j155 rec o l1 l2 (nI i) x (3 * nI i + nI w) (mA o 52) X = rec (nI (i + 1)) (wF X (mA o 52) (va_up (xA X (mA o 52)) (3 * i + w) x)) := by
    intro x
    unfold fX10_works_j155 fX10_works_j156
    rw [Lt3, nI_mul, nI_add, uM52 L (by omega), sb, nI_1]
  unfold fX10_works_j98
  rw [rM52 L, sb]
  have h : w = 0 ∨ w = 1 ∨ w = 2 := by omega
  rcases h with rfl | rfl | rfl
  · rw [if_pos (by decide), m_within, sb]
    exact h155 _
  · rw [if_neg (by decide), if_pos (by decide), m_within, sb]
    exact h155 _
  · rw [if_neg (by decide), if_neg (by decide), m_within, sb]
    exact h155 _
def MVal (X : XW) (o : Nat) (d : Rd) (g : Nat → Nat → Int32) : Prop := ∀ i w, i < dZ d → w < 3 → xA X (mA o 52) (3 * i + w) = g i w
theorem m_w1i (L : LM X o) (hr : r < 4) (R : MRd X o r d) (W : WRd d) (P : MLay X o d id) {m N n i : Nat} {ls : Nat → Ln} (hm4 : m < 4) (hm : xI X o 10 = nI m) (U : MRu X o m N ls) (hn : n < N) (hl : okL (ls n)) {g : Nat → Nat → Int32} (hi : i < dZ d) (hg : ∀ w, w < 3 → xA X (mA o 52) (3 * i + w) = g i w) :
    ∃ X1, (∀ rec, fX10_works_l2_b rec o (nI r) (nI (24 * m + n)) (nI i) X = rec (nI (i + 1)) X1) ∧ mfm o [26, 27, 52] X X1 ∧ xA X1 (mA o 52) = if ¬ lsk (ls n) (k13 g d id i) then va_up (xA X (mA o 52)) (3 * i + (ls n).2.1) (lv (ls n) (k13 g d id i)) else xA X (mA o 52) := by
  have W80 := W.z
  have N24 := U.2.1
  obtain ⟨l1, l2, l3, l4⟩ := hl
  have hML := U.2.2 n hn
  obtain ⟨Y, y1, y2, y3⟩ := m_knows (g := g) L hr R W P hi hg
  have F0 : mfm o [26, 27, 52] X Y := y2.wk (by decide)
  have LY := L.mf F0
  have MY := hML.mf F0 (by decide)
  have hmY : xI Y o 10 = nI m := by rw [F0.I (by decide)]; exact hm
  have y52 : xA Y (mA o 52) = xA X (mA o 52) := y2.A (by decide) (by decide) (by decide)
  have h55 : ∀ Z, mfm o [27] Y Z → ¬ lsk (ls n) (k13 g d id i) → ∃ X1, (∀ rec, fX10_works_j55 rec o (nI r) (nI (24 * m + n)) (nI i) (nI (ls n).2.1) Z = rec (nI (i + 1)) X1) ∧ mfm o [26, 27, 52] X X1 ∧ xA X1 (mA o 52) = if ¬ lsk (ls n) (k13 g d id i) then va_up (xA X (mA o 52)) (3 * i + (ls n).2.1) (lv (ls n) (k13 g d id i)) else xA X (mA o 52) := by
    intro Z F hs
    have LZ := LY.mf F
    obtain ⟨z1, z2, ⟨b, z3, z4, z5⟩, -⟩ := MY.mf F (by decide)
    have hmZ : xI Z o 10 = nI m := by rw [F.I (by decide)]; exact hmY
    obtain ⟨T, t1, t2⟩ := m_worth (kn := k13 g d id i) LZ l3 z5 (by omega) (fun w hw => by rw [F.A (k := 26) (by decide) (by decide) (by decide)]; exact y3 w hw)
    have FT : mfm o [27] Y T := F.tr t2
    have LT := LY.mf FT
    have t15 : xA T (mA o 15) (24 * m + n) = (ls n).1 := by rw [t2.A (k := 15) (by decide) (by decide) (by decide)]; exact z1
    have t52 : xA T (mA o 52) = xA X (mA o 52) := by rw [FT.A (k := 52) (by decide) (by decide) (by decide)]; exact y52
    have e : lv (ls n) (k13 g d id i) = wi (wth (k13 g d id i) (ls n).2.2.1 + (if (ls n).1 = 0 then 0 else k13 g d id i (ls n).2.1)) (xsv 3 (ls n).2.1) (xsv 4 (ls n).2.1) := rfl
    refine ⟨wF T (mA o 52) (va_up (xA T (mA o 52)) (3 * i + (ls n).2.1) (lv (ls n) (k13 g d id i))), fun rec => ?_, (F0.tr (FT.wk (by decide))).tr (mfm.wF (by decide) (by decide) (by decide)), by rw [if_pos hs, xA_wFe, t52]⟩
    unfold fX10_works_j55
    rw [gI_M LZ, sb, hmZ, rM17 LZ, sb, aM17 LZ (by omega), sb, z3, gK_M LZ, sb, Lt1060, nI_mul, nI_add, t1, sb]
    dsimp only
    rw [rM15 LT, sb, aM15 LT (by omega), sb, t15]
    by_cases hz : (ls n).1 = 0
    · rw [if_pos hz, m_w98 LT l2 (by omega), e, if_pos hz]
    · rw [if_neg hz, rM52 LT, sb, Lt3, nI_mul, nI_add, aM52 LT (by omega), sb, t52, hg _ l2, m_w98 LT l2 (by omega), e, if_neg hz]
      unfold k13
      rw [if_pos l2, t52]
  obtain ⟨z1, z2, -, z4, z5⟩ := MY
  have z0 := P.2.1
  by_cases h0 : (ls n).2.2.2.1 = 0
  · obtain ⟨X1, g1, g2⟩ := h55 Y mfm.rf (fun q => q.1 h0)
    refine ⟨X1, fun rec => ?_, g2⟩
    unfold fX10_works_l2_b
    rw [gI_M L, sb, z0, if_neg (nI_ge hi (by omega)), gK_M L, sb, y1, sb, rM16 LY, sb, aM16 LY (by omega), sb, z2, rM18 LY, sb, aM18 LY (by omega), sb, z4 h0, if_pos (by decide), g1]
  · obtain ⟨c, c1, c2, c3⟩ := z5 h0
    obtain ⟨T, t1, t2⟩ := m_worth (kn := k13 g d id i) LY (l4.resolve_left h0) c3 (by omega) y3
    by_cases hz : wth (k13 g d id i) (ls n).2.2.2 = 0
    · refine ⟨T, fun rec => ?_, F0.tr (t2.wk (by decide)), by rw [if_neg (fun q => q ⟨h0, hz⟩), t2.A (k := 52) (by decide) (by decide) (by decide), y52]⟩
      unfold fX10_works_l2_b fX10_works_j156
      rw [gI_M L, sb, z0, if_neg (nI_ge hi (by omega)), gK_M L, sb, y1, sb, rM16 LY, sb, aM16 LY (by omega), sb, z2, rM18 LY, sb, aM18 LY (by omega), sb, c1, if_neg (nI_pos (by omega)), gI_M LY, sb, hmY, sb, aM18 LY (by omega), sb, c1, gK_M LY, sb, Lt1060, nI_mul, nI_add, t1, sb, if_pos hz, nI_1]
    · obtain ⟨X1, g1, g2⟩ := h55 T t2 (fun q => hz q.2)
      refine ⟨X1, fun rec => ?_, g2⟩
      unfold fX10_works_l2_b
      rw [gI_M L, sb, z0, if_neg (nI_ge hi (by omega)), gK_M L, sb, y1, sb, rM16 LY, sb, aM16 LY (by omega), sb, z2, rM18 LY, sb, aM18 LY (by omega), sb, c1, if_neg (nI_pos (by omega)), gI_M LY, sb, hmY, sb, aM18 LY (by omega), sb, c1, gK_M LY, sb, Lt1060, nI_mul, nI_add, t1, sb, if_neg hz, g1]
theorem m_works (L : LM X o) (hr : r < 4) (R : MRd X o r d) (W : WRd d) (P : MLay X o d id) {m N n : Nat} {ls : Nat → Ln} (hm4 : m < 4) (hm : xI X o 10 = nI m) (U : MRu X o m N ls) (hn : n < N) (hl : okL (ls n)) (V : MVal X o d (sv d id ls n)) :
    ∃ X1, fX10_works o (nI r) (nI (24 * m + n)) X = some X1 ∧ mfm o [26, 27, 52] X X1 ∧ MVal X1 o d (sv d id ls (n + 1)) := by
  have W80 := W.z
  have key := iterP2 (b := fun rec => fX10_works_l2_b rec o (nI r) (nI (24 * m + n))) (z := fun _ _ => none) (fun q a Z => ∃ i, i ≤ dZ d ∧ q = dZ d - i ∧ a = nI i ∧ mfm o [26, 27, 52] X Z ∧ ∀ j w, j < dZ d → w < 3 → xA Z (mA o 52) (3 * j + w) = (if j < i then sv d id ls (n + 1) else sv d id ls n) j w) (fun X1 => mfm o [26, 27, 52] X X1 ∧ MVal X1 o d (sv d id ls (n + 1))) ?_ FU (dZ d) (nI 0) X (FUlt (by omega)) ⟨0, Nat.zero_le _, rfl, rfl, mfm.rf, fun j w hj hw => by rw [if_neg (by omega)]; exact V j w hj hw⟩
  · obtain ⟨X1, h1, h2⟩ := key
    refine ⟨X1, ?_, h2⟩
    unfold fX10_works
    rw [show fX10_works_l2 o (nI r) (nI (24 * m + n)) FU 0 X = some X1 from h1, sb]
  rintro q a Z ⟨i, hi, rfl, rfl, F, hv⟩
  have L1 := L.mf F
  have P1 := P.mf F (by decide)
  have z0 := P1.2.1
  by_cases hii : i = dZ d
  · left
    subst hii
    refine ⟨Z, fun rec => ?_, F, fun j w hj hw => by rw [hv j w hj hw, if_pos hj]⟩
    unfold fX10_works_l2_b
    rw [gI_M L1, sb, z0, if_pos (nI_le (Nat.le_refl _) (by omega))]
  · right
    obtain ⟨Z1, g1, g2, g3⟩ := m_w1i L1 hr (R.mf F (by decide)) W P1 hm4 (by rw [F.I (by decide)]; exact hm) (U.mf F (by decide)) hn hl (g := sv d id ls n) (i := i) (by omega) (fun w hw => by rw [hv i w (by omega) hw, if_neg (by omega)])
    refine ⟨dZ d - (i + 1), nI (i + 1), Z1, by omega, ⟨i + 1, by omega, rfl, rfl, F.tr g2, fun j w hj hw => ?_⟩, g1⟩
    rw [g3]
    by_cases hji : j = i
    · subst hji
      rw [if_pos (show j < j + 1 by omega)]
      have e2 : sv d id ls (n + 1) j w = if w = (ls n).2.1 ∧ ¬ lsk (ls n) (k13 (sv d id ls n) d id j) then lv (ls n) (k13 (sv d id ls n) d id j) else sv d id ls n j w := rfl
      rw [e2]
      by_cases hs : lsk (ls n) (k13 (sv d id ls n) d id j)
      · rw [if_neg (fun q => q hs), if_neg (fun q => q.2 hs), hv j w hj hw, if_neg (by omega)]
      · rw [if_pos hs]
        by_cases e : w = (ls n).2.1
        · rw [if_pos ⟨e, hs⟩, e, upE]
        · rw [if_neg (fun q => e q.1), upN (by omega), hv j w hj hw, if_neg (by omega)]
    · have e : (if j < i + 1 then sv d id ls (n + 1) else sv d id ls n) = (if j < i then sv d id ls (n + 1) else sv d id ls n) := by
        by_cases q : j < i
        · rw [if_pos q, if_pos (by omega)]
        · rw [if_neg q, if_neg (by omega)]
      rw [e, ← hv j w hj hw]
      have hw3 := hl.2.1
      split
      · exact upN (by omega)
      · rfl
theorem m_sh13 (L : LM X o) (hr : r < 4) (R : MRd X o r d) (W : WRd d) (P : MLay X o d id) {m N : Nat} {ls : Nat → Ln} (hm4 : m < 4) (hm : xI X o 10 = nI m) (U : MRu X o m N ls) (hl : ∀ n, n < N → okL (ls n)) (V : MVal X o d (sv d id ls 0)) :
    ∃ X1, fX10_shapes_l13 o (nI r) FU (nI (24 * m)) X = some X1 ∧ mfm o [26, 27, 52] X X1 ∧ MVal X1 o d (sv d id ls N) := by
  have N24 := U.2.1
  have key := iterP2 (b := fun rec => fX10_shapes_l13_b rec o (nI r)) (z := fun _ _ => none) (fun q a Z => ∃ n, n ≤ N ∧ q = N - n ∧ a = nI (24 * m + n) ∧ mfm o [26, 27, 52] X Z ∧ MVal Z o d (sv d id ls n)) (fun X1 => mfm o [26, 27, 52] X X1 ∧ MVal X1 o d (sv d id ls N)) ?_ FU N (nI (24 * m)) X (FUlt (by omega)) ⟨0, Nat.zero_le _, rfl, rfl, mfm.rf, V⟩
  · exact key
  rintro q a Z ⟨n, hn, rfl, rfl, F, hv⟩
  have L1 := L.mf F
  have U1 := U.mf F (by decide)
  have hm1 : xI Z o 10 = nI m := by rw [F.I (by decide)]; exact hm
  have u14 := U1.1
  by_cases hnn : n = N
  · left
    subst hnn
    refine ⟨Z, fun rec => ?_, F, hv⟩
    unfold fX10_shapes_l13_b
    simp (disch := first | omega | assumption | apply b01_01 | (simp only [LM_wI, LM_wF]; assumption)) only [gK_M, gI_M, pI_M, rM1, aM1, uM1, rM4, aM4, uM4, rM5, aM5, uM5, rM6, aM6, rM9, aM9, rM11, aM11, uM11, rM12, aM12, uM12, rM13, aM13, uM13, rM14, aM14, uM14, rM15, aM15, uM15, rM16, aM16, uM16, rM17, aM17, uM17, rM18, aM18, uM18, rM19, aM19, uM19, rM20, aM20, uM20, rM23, aM23, uM23, rM24, aM24, uM24, rM25, aM25, uM25, rM26, aM26, uM26, rM27, aM27, uM27, rM30, aM30, uM30, rM31, aM31, uM31, rM32, aM32, uM32, rM33, aM33, uM33, rM34, aM34, uM34, rM35, aM35, uM35, rM36, aM36, uM36, rM37, aM37, uM37, rM41, aM41, uM41, rM43, aM43, uM43, rM44, aM44, uM44, rM45, aM45, uM45, rM46, aM46, uM46, rM48, aM48, uM48, rM49, aM49, uM49, rM50, aM50, uM50, rM51, aM51, uM51, rM52, aM52, uM52, rM53, aM53, uM53, rM54, aM54, uM54, rM56, aM56, uM56, uL_M6, sb, nI_add, nI_mul, nI_1, nI_subI, nI_p1, nI_m1, nI_z, nI_le0, nI_lt0, Int32.add_zero, Lt2, Lt3, Lt4, Lt5, Lt8, Lt9, Lt10, Lt16, Lt24, Lt50, Lt80, Lt240, Lt1060, Lt6, Lt7, Lt11, Lt12, Lt13, Lt99, Lt100, Lt1000, nI_leI, nI_ltI, nI_eq, leT, leF, ltT, ltF, nI_n0, if_true, if_false, not_true_eq_false, not_false_eq_true, xKd_wI, xLn_wI, xR_wI, xA_wI, xL_wI, xQ_wI, xKd_wF, xLn_wF, xR_wF, xI_wF, xL_wF, xQ_wF, hm1, u14]
  · right
    obtain ⟨Z1, g1, g2, g3⟩ := m_works L1 hr (R.mf F (by decide)) W (P.mf F (by decide)) hm4 hm1 U1 (show n < N by omega) (hl n (by omega)) hv
    refine ⟨N - (n + 1), nI (24 * m + (n + 1)), Z1, by omega, ⟨n + 1, by omega, rfl, rfl, F.tr g2, g3⟩, fun rec => ?_⟩
    unfold fX10_shapes_l13_b
    simp (disch := first | omega | assumption | apply b01_01 | (simp only [LM_wI, LM_wF]; assumption)) only [gK_M, gI_M, pI_M, rM1, aM1, uM1, rM4, aM4, uM4, rM5, aM5, uM5, rM6, aM6, rM9, aM9, rM11, aM11, uM11, rM12, aM12, uM12, rM13, aM13, uM13, rM14, aM14, uM14, rM15, aM15, uM15, rM16, aM16, uM16, rM17, aM17, uM17, rM18, aM18, uM18, rM19, aM19, uM19, rM20, aM20, uM20, rM23, aM23, uM23, rM24, aM24, uM24, rM25, aM25, uM25, rM26, aM26, uM26, rM27, aM27, uM27, rM30, aM30, uM30, rM31, aM31, uM31, rM32, aM32, uM32, rM33, aM33, uM33, rM34, aM34, uM34, rM35, aM35, uM35, rM36, aM36, uM36, rM37, aM37, uM37, rM41, aM41, uM41, rM43, aM43, uM43, rM44, aM44, uM44, rM45, aM45, uM45, rM46, aM46, uM46, rM48, aM48, uM48, rM49, aM49, uM49, rM50, aM50, uM50, rM51, aM51, uM51, rM52, aM52, uM52, rM53, aM53, uM53, rM54, aM54, uM54, rM56, aM56, uM56, uL_M6, sb, nI_add, nI_mul, nI_1, nI_subI, nI_p1, nI_m1, nI_z, nI_le0, nI_lt0, Int32.add_zero, Lt2, Lt3, Lt4, Lt5, Lt8, Lt9, Lt10, Lt16, Lt24, Lt50, Lt80, Lt240, Lt1060, Lt6, Lt7, Lt11, Lt12, Lt13, Lt99, Lt100, Lt1000, nI_leI, nI_ltI, nI_eq, leT, leF, ltT, ltF, nI_n0, if_true, if_false, not_true_eq_false, not_false_eq_true, xKd_wI, xLn_wI, xR_wI, xA_wI, xL_wI, xQ_wI, xKd_wF, xLn_wF, xR_wF, xI_wF, xL_wF, xQ_wF, hm1, u14, g1]
    rfl
end MLi
