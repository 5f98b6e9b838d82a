/-! APART, the reference's side and both -/
section Ap
variable {X : XW} {v : Nat} {t : St}
def OTb (X : XW) (o : Nat) (t : St) (d : Rd) (n : Nat) : Prop := ∀ i, i < n → xA X (mA o 56) (4 * i) = tl t d i ∧ xA X (mA o 56) (4 * i + 1) = gT t d i 1 ∧ xA X (mA o 56) (4 * i + 2) = gT t d i 2 ∧ xA X (mA o 56) (4 * i + 3) = eF d (tE t) i
theorem m_ap1 (I : Inv X v t) {d : Rd} (W : WRd d) (P : MLay X (v + 127) d (tE t)) (V : MVal X (v + 127) d (gT t d)) {i : Nat} (hi : i < dZ d) {l2 : Int32} (rec : Int32 → XW → Option XW) : fX10_apart_l39_b rec (v + 127) l2 (nI i) X = rec (nI (i + 1)) (wF X (mA (v + 127) 56) (va_up (va_up (va_up (va_up (xA X (mA (v + 127) 56)) (4 * i) (tl t d i)) (4 * i + 1) (gT t d i 1)) (4 * i + 2) (gT t d i 2)) (4 * i + 3) (eF d (tE t) i))) := by
  have W80 := W.z
  have L := I.2.1.1
  have ht := m_tl I W V hi
  have e51 := eF_m W P hi
  have v1 := V i 1 hi (by decide)
  have v2 := V i 2 hi (by decide)
  generalize hX1 : wF X (mA (v + 127) 56) (va_up (xA X (mA (v + 127) 56)) (4 * i) (tl t d i)) = X1
  have L1 : LM X1 (v + 127) := by rw [← hX1]; exact L.mv (tr1 rfl)
  have a1 : xA X1 (mA (v + 127) 52) = xA X (mA (v + 127) 52) := by rw [← hX1, xA_wFm (by decide) (by decide) (by decide)]
  have b1 : xA X1 (mA (v + 127) 51) = xA X (mA (v + 127) 51) := by rw [← hX1, xA_wFm (by decide) (by decide) (by decide)]
  generalize hX2 : wF X1 (mA (v + 127) 56) (va_up (xA X1 (mA (v + 127) 56)) (4 * i + 1) (gT t d i 1)) = X2
  have L2 : LM X2 (v + 127) := by rw [← hX2]; exact L1.mv (tr1 rfl)
  have a2 : xA X2 (mA (v + 127) 52) = xA X (mA (v + 127) 52) := by rw [← hX2, xA_wFm (by decide) (by decide) (by decide), a1]
  have b2 : xA X2 (mA (v + 127) 51) = xA X (mA (v + 127) 51) := by rw [← hX2, xA_wFm (by decide) (by decide) (by decide), b1]
  generalize hX3 : wF X2 (mA (v + 127) 56) (va_up (xA X2 (mA (v + 127) 56)) (4 * i + 2) (gT t d i 2)) = X3
  have L3 : LM X3 (v + 127) := by rw [← hX3]; exact L2.mv (tr1 rfl)
  have b3 : xA X3 (mA (v + 127) 51) = xA X (mA (v + 127) 51) := by rw [← hX3, xA_wFm (by decide) (by decide) (by decide), b2]
  have fin : ∀ x, x = eF d (tE t) i → fX10_apart_j123 rec (v + 127) l2 (nI i) x (4 * nI i + 3) (mA (v + 127) 56) X3 = rec (nI (i + 1)) (wF X (mA (v + 127) 56) (va_up (va_up (va_up (va_up (xA X (mA (v + 127) 56)) (4 * i) (tl t d i)) (4 * i + 1) (gT t d i 1)) (4 * i + 2) (gT t d i 2)) (4 * i + 3) (eF d (tE t) i))) := by
    rintro x rfl
    unfold fX10_apart_j123
    rw [Lt4, nI_mul, Lt3, nI_add, uM56 L3 (by omega), sb, nI_1, ← hX3, ← hX2, ← hX1]
    simp only [wF_wF, xA_wFe]
  unfold fX10_apart_l39_b
  rw [gI_M L, sb, P.2.1, if_neg (nI_ge hi (by omega)), rM56 L, sb, gK_M L, sb, ht, sb]
  dsimp only
  rw [show (4 : Int32) * nI i = nI (4 * i) by rw [Lt4, nI_mul], uM56 L (by omega), sb, hX1, rM56 L1, sb, rM52 L1, sb, Lt3, nI_mul, nI_1, aM52 L1 (by omega), sb, a1, v1, nI_1, uM56 L1 (by omega), sb, hX2, rM56 L2, sb, rM52 L2, sb, Lt2, nI_add, aM52 L2 (by omega), sb, a2, v2, nI_add, uM56 L2 (by omega), sb, hX3, rM56 L3, sb, rM51 L3, sb, aM51 L3 (by omega), sb, b3, e51]
  have e4 : nI (4 * i) + nI 3 = 4 * nI i + 3 := by rw [Lt4, nI_mul]; rfl
  rw [e4]
  by_cases q : eF d (tE t) i = 0
  · rw [if_pos q]
    exact fin _ q.symm
  · rw [if_neg q]
    exact fin _ ((b01_01 _).resolve_left q).symm
theorem m_ap39 (I : Inv X v t) {d : Rd} (W : WRd d) (P : MLay X (v + 127) d (tE t)) (V : MVal X (v + 127) d (gT t d)) {l2 : Int32} : ∃ X1, fX10_apart_l39 (v + 127) l2 FU 0 X = some X1 ∧ mfm (v + 127) [56] X X1 ∧ OTb X1 (v + 127) t d (dZ d) := by
  have W80 := W.z
  have key := iterP2 (b := fun rec => fX10_apart_l39_b rec (v + 127) l2) (z := fun _ _ => none) (fun m a Z => ∃ i, i ≤ dZ d ∧ m = dZ d - i ∧ a = nI i ∧ mfm (v + 127) [56] X Z ∧ OTb Z (v + 127) t d i) (fun X1 => mfm (v + 127) [56] X X1 ∧ OTb X1 (v + 127) t d (dZ d)) ?_ FU (dZ d) (nI 0) X (FUlt (by omega)) ⟨0, Nat.zero_le _, rfl, rfl, mfm.rf, fun j hj => absurd hj (Nat.not_lt_zero _)⟩
  · exact key
  rintro m a Z ⟨i, hi, rfl, rfl, F, hT⟩
  have I1 := I.mf F (by decide)
  have P1 := P.mf F (by decide)
  by_cases hii : i = dZ d
  · left
    subst hii
    refine ⟨Z, fun rec => ?_, F, hT⟩
    unfold fX10_apart_l39_b
    rw [gI_M I1.2.1.1, sb, P1.2.1, if_pos (nI_le (Nat.le_refl _) (by omega))]
  · right
    refine ⟨dZ d - (i + 1), nI (i + 1), _, by omega, ⟨i + 1, by omega, rfl, rfl, F.tr (mfm.wF (by decide) (by decide) (by decide)), fun j hj => ?_⟩, fun rec => m_ap1 I1 W P1 (V.mf F (by decide)) (by omega) rec⟩
    rw [xA_wFe]
    by_cases e : j = i
    · subst e
      rw [upN (by omega), upN (by omega), upN (by omega), upE, upN (by omega), upN (by omega), upE, upN (by omega), upE, upE]
      exact ⟨rfl, rfl, rfl, rfl⟩
    · rw [upN (by omega), upN (by omega), upN (by omega), upN (by omega), upN (by omega), upN (by omega), upN (by omega), upN (by omega), upN (by omega), upN (by omega), upN (by omega), upN (by omega), upN (by omega), upN (by omega), upN (by omega), upN (by omega)]
      exact hT j (by omega)
theorem m_alike (I : Inv X v t) {d e : Rd} (W : WRd e) (hO : OTb X (v + 127) t d (dZ d)) (P : MLay X (v + 127) e (tE t)) (V : MVal X (v + 127) e (gT t e)) {i : Nat} (hi : i < dZ d) (hi' : i < dZ e) : fX10_isAlike (v + 127) (nI i) X = some (b01 (alk t d e i), X) := by
  have W80 := W.z
  have L := I.2.1.1
  have ht := m_tl I W V hi'
  have e51 := eF_m W P hi'
  obtain ⟨o0, o1, o2, o3⟩ := hO i hi
  unfold fX10_isAlike
  rw [rM56 L, sb, Lt4, nI_mul, aM56 L (by omega), sb, o0, gK_M L, sb, ht, sb]
  dsimp only
  by_cases c1 : tl t d i = tl t e i
  rotate_left 1
  · rw [if_neg c1, b01_n (fun q => c1 q.1)]
  rw [if_pos c1, rM56 L, sb, nI_1, aM56 L (by omega), sb, o1, rM52 L, sb, Lt3, nI_mul, nI_1, aM52 L (by omega), sb, V i 1 hi' (by decide)]
  by_cases c2 : gT t d i 1 = gT t e i 1
  rotate_left 1
  · rw [if_neg c2, b01_n (fun q => c2 q.2.1)]
  rw [if_pos c2, sb, Lt2, nI_add, aM56 L (by omega), sb, o2, sb, nI_add, aM52 L (by omega), sb, V i 2 hi' (by decide)]
  by_cases c3 : gT t d i 2 = gT t e i 2
  rotate_left 1
  · rw [if_neg c3, b01_n (fun q => c3 q.2.2.1)]
  rw [if_pos c3, sb, nI_add, aM56 L (by omega), sb, o3, rM51 L, sb, aM51 L (by omega), sb, e51]
  have e1 : b01 (alk t d e i) = b01 (eF d (tE t) i = eF e (tE t) i) := b01_c ⟨fun q => q.2.2.2, fun q => ⟨c1, c2, c3, q⟩⟩
  rw [e1]
  unfold fX10_isAlike_j86
  rcases b01_01 (kq e (tE t) i 4 = 0) with q | q
  · rw [show eF e (tE t) i = 0 from q, if_pos rfl]
    by_cases q2 : eF d (tE t) i = 0
    · rw [if_pos q2, b01_y q2]
    · rw [if_neg q2, b01_n q2]
  · rw [show eF e (tE t) i = 1 from q, if_neg (by decide)]
    by_cases q2 : eF d (tE t) i = 1
    · rw [if_pos q2, b01_y q2]
    · rw [if_neg q2, b01_n q2]
theorem m_ap137 (I : Inv X v t) {d e : Rd} (W' : WRd d) (W : WRd e) (hO : OTb X (v + 127) t d (dZ d)) (h55 : xI X (v + 127) 55 = nI (dZ d)) (P : MLay X (v + 127) e (tE t)) (V : MVal X (v + 127) e (gT t e)) : ∃ r, fuP (min (dZ d) (dZ e)) (alk t d e) r ∧ fX10_apart_l137 (v + 127) FU 0 X = some (nI r, X) := by
  have W80 := W.z
  have W81 := W'.z
  have L := I.2.1.1
  generalize hc : min (dZ d) (dZ e) = c
  have key := iterP2 (b := fun rec => fX10_apart_l137_b rec (v + 127)) (z := fun _ _ => none) (fun m a Z => ∃ i, i ≤ c ∧ m = c - i ∧ a = nI i ∧ Z = X ∧ ∀ j, j < i → alk t d e j) (fun y => ∃ r, fuP c (alk t d e) r ∧ y = (nI r, X)) ?_ FU c (nI 0) X (FUlt (by omega)) ⟨0, Nat.zero_le _, rfl, rfl, rfl, fun j hj => absurd hj (Nat.not_lt_zero _)⟩
  · obtain ⟨y, h1, r, h2, rfl⟩ := key
    exact ⟨r, h2, h1⟩
  rintro m a Z ⟨i, hi, rfl, rfl, rfl, hal⟩
  by_cases hic : i = c
  · left
    refine ⟨_, fun rec => ?_, i, ⟨hi, hal, fun q => absurd q (by omega)⟩, rfl⟩
    unfold fX10_apart_l137_b
    rw [gI_M L, sb, P.2.1]
    by_cases q : dZ e ≤ i
    · rw [if_pos (nI_le q (by omega))]
    · rw [if_neg (nI_ge (by omega) (by omega)), gI_M L, sb, h55, if_pos (nI_le (by omega) (by omega))]
  · have ha := m_alike I W hO P V (i := i) (by omega) (by omega)
    by_cases q : alk t d e i
    · right
      refine ⟨c - (i + 1), nI (i + 1), Z, by omega, ⟨i + 1, by omega, rfl, rfl, rfl, fun j hj => ?_⟩, fun rec => ?_⟩
      · by_cases z : j = i
        · rw [z]; exact q
        · exact hal j (by omega)
      · unfold fX10_apart_l137_b
        rw [gI_M L, sb, P.2.1, if_neg (nI_ge (by omega) (by omega)), gI_M L, sb, h55, if_neg (nI_ge (by omega) (by omega)), gK_M L, sb, ha, sb, b01_y q]
        dsimp only
        rw [if_neg (by decide), nI_1]
    · left
      refine ⟨_, fun rec => ?_, i, ⟨hi, hal, fun _ => q⟩, rfl⟩
      unfold fX10_apart_l137_b
      rw [gI_M L, sb, P.2.1, if_neg (nI_ge (by omega) (by omega)), gI_M L, sb, h55, if_neg (nI_ge (by omega) (by omega)), gK_M L, sb, ha, sb, b01_n q]
      dsimp only
      rw [if_pos rfl]
theorem m_isReading (L : LM X (v + 127)) {rc : Nat} (hr : xI X (v + 127) 28 = nI rc) (n : Int32) : fX10_isReading (v + 127) n X = some (if n < 0 then 0 else if nI rc ≤ n then 0 else 1, X) := by
  unfold fX10_isReading
  rw [gI_M L, sb, hr]
  split
  · rfl
  · split <;> rfl
theorem rd01 {n : Int32} {rc : Nat} (h4 : rc ≤ 4) : (∃ r : Nat, r < rc ∧ n = nI r ∧ (if n < 0 then (0 : Int32) else if nI rc ≤ n then 0 else 1) = 1) ∨ (if n < 0 then (0 : Int32) else if nI rc ≤ n then 0 else 1) = 0 := by
  by_cases h : n < 0
  · right; rw [if_pos h]
  · rw [if_neg h]
    by_cases h2 : nI rc ≤ n
    · right; rw [if_pos h2]
    · left
      obtain ⟨r, hr, rfl⟩ := nI_of h
      refine ⟨r, ?_, rfl, if_neg h2⟩
      by_cases q : r < rc
      · exact q
      · exact absurd (nI_le (by omega) hr) h2
theorem p_apart (I : Inv X v t) (a b : Int32) : ∃ x X1 X2, fX9_apart v a b X = some (x, X1) ∧ fX10_apart (v + 127) a b X1 = some (x, X2) ∧ Inv X2 v t := by
  have W := I.2.2.1
  have W2 := W.2.1
  have L := I.1.1
  have F0 : ∀ Y : XW, mfm (v + 127) [0] Y (wI Y (v + 127) 0 0) := fun Y => mfm.wI (by decide)
  rcases rd01 (n := a) W2 with ⟨r, hr, rfl, ea⟩ | ea
  rotate_left 1
  · refine ⟨-2, X, wI X (v + 127) 0 0, ?_, ?_, I.mf (F0 X) (by decide)⟩
    · unfold fX9_apart
      rw [gK_of' L.1, sb, f_isReading L I.1.2.1, sb, ea]
      dsimp only
      rw [if_pos rfl]
    · have I0 := I.mf (F0 X) (by decide)
      unfold fX10_apart
      rw [pI_M I.2.1.1, sb, gK_M I0.2.1.1, sb, m_isReading I0.2.1.1 I0.2.1.2.1, sb, ea]
      dsimp only
      rw [if_pos rfl]
  rcases rd01 (n := b) W2 with ⟨r', hr', rfl, eb⟩ | eb
  rotate_left 1
  · refine ⟨-2, X, wI X (v + 127) 0 0, ?_, ?_, I.mf (F0 X) (by decide)⟩
    · unfold fX9_apart
      rw [gK_of' L.1, sb, f_isReading L I.1.2.1, sb, ea]
      dsimp only
      rw [if_neg (by decide), gK_of' L.1, sb, f_isReading L I.1.2.1, sb, eb]
      dsimp only
      rw [if_pos rfl]
    · have I0 := I.mf (F0 X) (by decide)
      unfold fX10_apart
      rw [pI_M I.2.1.1, sb, gK_M I0.2.1.1, sb, m_isReading I0.2.1.1 I0.2.1.2.1, sb, ea]
      dsimp only
      rw [if_neg (by decide), gK_M I0.2.1.1, sb, m_isReading I0.2.1.1 I0.2.1.2.1, sb, eb]
      dsimp only
      rw [if_pos rfl]
  obtain ⟨Y1, y1, G1, -, S1, J1⟩ := f_prepare I (s := v + 7) (Or.inl rfl) hr
  obtain ⟨Y2, y2, G2, -, S2, J2⟩ := f_prepare J1 (s := v + 31) (Or.inr rfl) hr'
  have S1' := S1.mf G2 (fun a q1 q2 => by unfold PS; omega)
  have Wd := W.2.2.2.1 r (by omega)
  have We := W.2.2.2.1 r' (by omega)
  obtain ⟨ru, u1, u2⟩ := f_unlike (J2.1.1.sh (Or.inl rfl)) (J2.1.1.sh (Or.inr rfl)) S1' S2 Wd We
  have I0 := J2.mf (F0 Y2) (by decide)
  obtain ⟨Z1, z1, H1, I1, P1, V1⟩ := m_shs I0 hr
  have L1 := I1.2.1.1
  have F5 : mfm (v + 127) [55] Z1 (wI Z1 (v + 127) 55 (nI (dZ (tD t r)))) := mfm.wI (by decide)
  have I5 := I1.mf F5 (by decide)
  have i5 : xI (wI Z1 (v + 127) 55 (nI (dZ (tD t r)))) (v + 127) 55 = nI (dZ (tD t r)) := by rw [xI_wI, if_pos ⟨rfl, rfl⟩]
  obtain ⟨Z2, z2, H2, O2⟩ := m_ap39 I5 Wd (P1.mf F5 (by decide)) (V1.mf F5 (by decide)) (l2 := nI r')
  have I2 := I5.mf H2 (by decide)
  obtain ⟨Z3, z3, H3, I3, P3, V3⟩ := m_shs I2 hr'
  have O3 : OTb Z3 (v + 127) t (tD t r) (dZ (tD t r)) := by
    unfold OTb
    rw [H3.A (k := 56) (by decide) (by decide) (by decide)]
    exact O2
  have i6 : xI Z3 (v + 127) 55 = nI (dZ (tD t r)) := by rw [H3.I (by decide), H2.I (by decide)]; exact i5
  obtain ⟨rm, m1, m2⟩ := m_ap137 I3 Wd We O3 i6 P3 V3
  have hrr := u1.un m1
  subst hrr
  refine ⟨apV (dZ (tD t r)) (dZ (tD t r')) ru, Y2, Z3, ?_, ?_, I3⟩
  · unfold fX9_apart
    rw [gK_of' L.1, sb, f_isReading L I.1.2.1, sb, ea]
    dsimp only
    rw [if_neg (by decide), gK_of' L.1, sb, f_isReading L I.1.2.1, sb, eb]
    dsimp only
    have La := J1.1.1
    have Lb := J2.1.1
    rw [if_neg (by decide), gR_of L.1 L.2.2.2.2.2.1, sb, gK_of' L.1, sb, y1, sb, gR_of La.1 La.2.2.2.2.2.2.1, sb, gK_of' La.1, sb, y2, sb, gR_of Lb.1 Lb.2.2.2.2.2.1, sb, gR_of Lb.1 Lb.2.2.2.2.2.2.1, sb, sK (Lb.sh (Or.inl rfl)), sb, u2, sb]
  · unfold fX10_apart
    rw [pI_M J2.2.1.1, sb, gK_M I0.2.1.1, sb, m_isReading I0.2.1.1 I0.2.1.2.1, sb, ea]
    dsimp only
    rw [if_neg (by decide), gK_M I0.2.1.1, sb, m_isReading I0.2.1.1 I0.2.1.2.1, sb, eb]
    dsimp only
    rw [if_neg (by decide), gK_M I0.2.1.1, sb, z1, sb, gI_M L1, sb, P1.2.1, pI_M L1, sb, z2, sb, gK_M I2.2.1.1, sb, z3, sb, m2, sb]
    dsimp only
    rw [gI_M I3.2.1.1, sb, P3.2.1, gI_M I3.2.1.1, sb, i6]
    have W80 := Wd.z
    have W81 := We.z
    have hle := u1.1
    unfold apV
    by_cases c1 : ru = dZ (tD t r')
    · rw [if_pos (by rw [c1])]
      by_cases c2 : ru = dZ (tD t r)
      · rw [if_pos (by rw [c2]), if_pos (by omega), if_pos (by omega)]
      · rw [if_neg (fun q => c2 ((nI_eq (by omega) (by omega)).mp q)), if_neg (c := dZ (tD t r) = dZ (tD t r')) (by omega)]
        split <;> rfl
    · rw [if_neg (fun q => c1 ((nI_eq (by omega) (by omega)).mp q))]
      by_cases c3 : ru = min (dZ (tD t r)) (dZ (tD t r'))
      · rw [if_pos c3, if_neg (by omega)]
      · rw [if_neg c3]
end Ap
