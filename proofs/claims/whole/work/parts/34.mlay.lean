/-! the reference lays out -/
theorem xA_wFm {X : XW} {o j k : Nat} {f : Nat → Int32} (hj : j < 57) (hk : k < 57) (h : j ≠ k) : xA (wF X (mA o k) f) (mA o j) = xA X (mA o j) := xA_wFn (fun e => h ((mA_inj hj hk).mp e))
section MLayI
variable {rec : Int32 → XW → Option (XW)} {l0 : Nat} {l1 l2 l3 l4 l5 l6 s1 : Int32} {s2 : Nat} {X : XW}
theorem mi147 {c : Prop} [Decidable c] : (if c then fX10_setsOut_j147 rec l0 l1 l2 l4 l5 l6 1 s1 s2 X else fX10_setsOut_j147 rec l0 l1 l2 l4 l5 l6 0 s1 s2 X) = fX10_setsOut_j147 rec l0 l1 l2 l4 l5 l6 (b01 c) s1 s2 X := by unfold b01; split <;> rfl
theorem mi276 {c : Prop} [Decidable c] : (if c then fX10_knows_j276 l0 l1 l3 1 s1 s2 X else fX10_knows_j276 l0 l1 l3 0 s1 s2 X) = fX10_knows_j276 l0 l1 l3 (b01 c) s1 s2 X := by unfold b01; split <;> rfl
theorem mi236 {c : Prop} [Decidable c] : (if c then fX10_knows_j236 l0 l1 l2 l3 0 s1 s2 X else fX10_knows_j236 l0 l1 l2 l3 1 s1 s2 X) = fX10_knows_j236 l0 l1 l2 l3 (b01 (¬ c)) s1 s2 X := by unfold b01; by_cases h : c <;> simp [h]
theorem mi210 {c : Prop} [Decidable c] : (if c then fX10_knows_j210 l0 l1 l2 l3 0 s1 s2 X else fX10_knows_j210 l0 l1 l2 l3 1 s1 s2 X) = fX10_knows_j210 l0 l1 l2 l3 (b01 (¬ c)) s1 s2 X := by unfold b01; by_cases h : c <;> simp [h]
theorem mi184 {c e : Prop} [Decidable c] [Decidable e] : (if ¬ c then fX10_knows_j183 l0 l1 l2 l3 s1 s2 X else if e then fX10_knows_j183 l0 l1 l2 l3 s1 s2 X else fX10_knows_j184 l0 l1 l2 l3 1 s1 s2 X) = fX10_knows_j184 l0 l1 l2 l3 (b01 (c ∧ ¬ e)) s1 s2 X := by unfold b01; by_cases h : c <;> by_cases h2 : e <;> simp [h, h2, fX10_knows_j183]
theorem mi158 {c : Prop} [Decidable c] : (if c then fX10_knows_j158 l0 l1 l2 l3 l5 0 s1 s2 X else fX10_knows_j158 l0 l1 l2 l3 l5 1 s1 s2 X) = fX10_knows_j158 l0 l1 l2 l3 l5 (b01 (¬ c)) s1 s2 X := by unfold b01; by_cases h : c <;> simp [h]
theorem mi57 {c : Prop} [Decidable c] : (if c then fX10_knows_j57 l0 l1 l2 l3 1 X else fX10_knows_j57 l0 l1 l2 l3 0 X) = fX10_knows_j57 l0 l1 l2 l3 (b01 c) X := by unfold b01; split <;> rfl
end MLayI
section MLay
variable {X : XW} {o r id : Nat} {d : Rd}
def plN (d : Rd) (id p k t : Nat) : Nat := ps (dS d) k + t - ps (dS d) (fs d id p)
/-- the places laid out so far -/
def mpl (X : XW) (o : Nat) (d : Rd) (id n : Nat) : Prop := ∀ p k t, plc d id p k t → ps (dS d) k + t < n → xA X (mA o 48) (ps (dS d) k + t) = nI k ∧ xA X (mA o 49) (ps (dS d) k + t) = nI p ∧ xA X (mA o 50) (ps (dS d) k + t) = nI (plN d id p k t) ∧ xA X (mA o 51) (ps (dS d) k + t) = b01 (plN d id p k t = pS d id p - 1)
def m1st (X : XW) (o n : Nat) : Prop := ∀ i, i < n → xA X (mA o 52) (3 * i) = 10 ∧ xA X (mA o 52) (3 * i + 1) = 50 ∧ xA X (mA o 52) (3 * i + 2) = 5
def macc (X : XW) (o : Nat) (d : Rd) (id n : Nat) : Prop := ∀ p w, p < n → fs d id p ≤ w → w < fs d id (p + 1) → xA X (mA o 46) w = aF d (fs d id p) (fs d id (p + 1)) w
def soX (X : XW) (o i : Nat) (a b c e : Int32) : XW := wI (wF (wF (wF (wF (wF X (mA o 48) (va_up (xA X (mA o 48)) i a)) (mA o 49) (va_up (xA X (mA o 49)) i b)) (mA o 50) (va_up (xA X (mA o 50)) i c)) (mA o 51) (va_up (xA X (mA o 51)) i e)) (mA o 52) (va_up (va_up (va_up (xA X (mA o 52)) (3 * i) 10) (3 * i + 1) 50) (3 * i + 2) 5)) o 47 (nI (i + 1))
theorem soX_f (X : XW) (o i : Nat) (a b c e : Int32) : mfm o [47, 48, 49, 50, 51, 52] X (soX X o i a b c e) := (((((mfm.wF (by decide) (by decide) (by decide)).tr (mfm.wF (by decide) (by decide) (by decide))).tr (mfm.wF (by decide) (by decide) (by decide))).tr (mfm.wF (by decide) (by decide) (by decide))).tr (mfm.wF (by decide) (by decide) (by decide))).tr (mfm.wI (by decide))
theorem soX_A (X : XW) (o i : Nat) (a b c e : Int32) : xA (soX X o i a b c e) (mA o 48) = va_up (xA X (mA o 48)) i a ∧ xA (soX X o i a b c e) (mA o 49) = va_up (xA X (mA o 49)) i b ∧ xA (soX X o i a b c e) (mA o 50) = va_up (xA X (mA o 50)) i c ∧ xA (soX X o i a b c e) (mA o 51) = va_up (xA X (mA o 51)) i e ∧ xA (soX X o i a b c e) (mA o 52) = va_up (va_up (va_up (xA X (mA o 52)) (3 * i) 10) (3 * i + 1) 50) (3 * i + 2) 5 ∧ xI (soX X o i a b c e) o 47 = nI (i + 1) := by
  unfold soX
  simp (disch := omega) only [xA_wI, xA_wFe, xA_wFm, xI_wI]
  simp
theorem m_so1 (L : LM X o) (hr : r < 4) (R : MRd X o r d) (W : WRd d) (P : MPh X o d id) {p k t : Nat} (hp : plc d id p k t) (hz : xI X o 47 = nI (ps (dS d) k + t)) (rec : Int32 → XW → Option XW) :
    fX10_setsOut_l62_b rec o (nI r) (nI p) (nI (ps (dS d) (fs d id p))) (nI k) (nI t) X = rec (nI (t + 1)) (soX X o (ps (dS d) k + t) (nI k) (nI p) (nI (plN d id p k t)) (b01 (plN d id p k t = pS d id p - 1))) := by
  have W1 := W.1
  have kw := plc_w hp
  have hpz := plc_z hp
  have W80 := W.z
  obtain ⟨b1, b2⟩ := plc_b hp
  have hpn := pN_le d id
  obtain ⟨hp1, hp2, hp3, hp4⟩ := hp
  have c1 := (R.2.2.1 k kw).1
  have hS := (W.2.1 k kw).2.1
  obtain ⟨-, -, e4⟩ := P.2.2 p hp1
  have e4b : pS d id p = ps (dS d) (fs d id (p + 1)) - ps (dS d) (fs d id p) := rfl
  have ez : ps (dS d) (fs d id (p + 1)) ≤ dZ d := ps_mono (fs_le d id (p + 1))
  unfold fX10_setsOut_l62_b
  simp only [mi147]
  simp (disch := first | omega | assumption | apply b01_01 | (simp only [LM_wI, LM_wF]; assumption)) only [gK_M, gI_M, pI_M, rM1, aM1, uM1, rM4, aM4, uM4, rM5, aM5, uM5, rM6, aM6, rM9, aM9, rM11, aM11, uM11, rM12, aM12, uM12, rM13, aM13, uM13, rM14, aM14, uM14, rM15, aM15, uM15, rM16, aM16, uM16, rM17, aM17, uM17, rM18, aM18, uM18, rM19, aM19, uM19, rM20, aM20, uM20, rM23, aM23, uM23, rM24, aM24, uM24, rM25, aM25, uM25, rM26, aM26, uM26, rM27, aM27, uM27, rM30, aM30, uM30, rM31, aM31, uM31, rM32, aM32, uM32, rM33, aM33, uM33, rM34, aM34, uM34, rM35, aM35, uM35, rM36, aM36, uM36, rM37, aM37, uM37, rM41, aM41, uM41, rM43, aM43, uM43, rM44, aM44, uM44, rM45, aM45, uM45, rM46, aM46, uM46, rM48, aM48, uM48, rM49, aM49, uM49, rM50, aM50, uM50, rM51, aM51, uM51, rM52, aM52, uM52, rM53, aM53, uM53, rM54, aM54, uM54, rM56, aM56, uM56, uL_M6, sb, nI_add, nI_mul, nI_1, nI_subI, nI_p1, nI_m1, nI_z, nI_le0, nI_lt0, Int32.add_zero, Lt2, Lt3, Lt4, Lt5, Lt8, Lt9, Lt10, Lt16, Lt24, Lt50, Lt80, Lt240, Lt1060, Lt6, Lt7, Lt11, Lt12, Lt13, Lt99, Lt100, Lt1000, nI_leI, nI_ltI, nI_eq, leT, leF, ltT, ltF, nI_n0, if_true, if_false, not_true_eq_false, not_false_eq_true, xKd_wI, xLn_wI, xR_wI, xA_wI, xL_wI, xQ_wI, xKd_wF, xLn_wF, xR_wF, xI_wF, xL_wF, xQ_wF, c1, hz, e4, xA_wFm]
  unfold fX10_setsOut_j147
  simp (disch := first | omega | assumption | apply b01_01 | (simp only [LM_wI, LM_wF]; assumption)) only [gK_M, gI_M, pI_M, rM1, aM1, uM1, rM4, aM4, uM4, rM5, aM5, uM5, rM6, aM6, rM9, aM9, rM11, aM11, uM11, rM12, aM12, uM12, rM13, aM13, uM13, rM14, aM14, uM14, rM15, aM15, uM15, rM16, aM16, uM16, rM17, aM17, uM17, rM18, aM18, uM18, rM19, aM19, uM19, rM20, aM20, uM20, rM23, aM23, uM23, rM24, aM24, uM24, rM25, aM25, uM25, rM26, aM26, uM26, rM27, aM27, uM27, rM30, aM30, uM30, rM31, aM31, uM31, rM32, aM32, uM32, rM33, aM33, uM33, rM34, aM34, uM34, rM35, aM35, uM35, rM36, aM36, uM36, rM37, aM37, uM37, rM41, aM41, uM41, rM43, aM43, uM43, rM44, aM44, uM44, rM45, aM45, uM45, rM46, aM46, uM46, rM48, aM48, uM48, rM49, aM49, uM49, rM50, aM50, uM50, rM51, aM51, uM51, rM52, aM52, uM52, rM53, aM53, uM53, rM54, aM54, uM54, rM56, aM56, uM56, uL_M6, sb, nI_add, nI_mul, nI_1, nI_subI, nI_p1, nI_m1, nI_z, nI_le0, nI_lt0, Int32.add_zero, Lt2, Lt3, Lt4, Lt5, Lt8, Lt9, Lt10, Lt16, Lt24, Lt50, Lt80, Lt240, Lt1060, Lt6, Lt7, Lt11, Lt12, Lt13, Lt99, Lt100, Lt1000, nI_leI, nI_ltI, nI_eq, leT, leF, ltT, ltF, nI_n0, if_true, if_false, not_true_eq_false, not_false_eq_true, xKd_wI, xLn_wI, xR_wI, xA_wI, xL_wI, xQ_wI, xKd_wF, xLn_wF, xR_wF, xI_wF, xL_wF, xQ_wF, hz, xA_wFm, xA_wFe, wF_wF]
  rfl
theorem m_so62 (L : LM X o) (hr : r < 4) (R : MRd X o r d) (W : WRd d) (P : MPh X o d id) {p k : Nat} (hp1 : p < pN d id) (hp2 : fs d id p ≤ k) (hp3 : k < fs d id (p + 1)) (hz : xI X o 47 = nI (ps (dS d) k)) (h1 : mpl X o d id (ps (dS d) k)) (h2 : m1st X o (ps (dS d) k)) :
    ∃ X1, fX10_setsOut_l62 o (nI r) (nI p) (nI (ps (dS d) (fs d id p))) (nI k) FU 0 X = some X1 ∧ mfm o [47, 48, 49, 50, 51, 52] X X1 ∧ xI X1 o 47 = nI (ps (dS d) (k + 1)) ∧ mpl X1 o d id (ps (dS d) (k + 1)) ∧ m1st X1 o (ps (dS d) (k + 1)) := by
  have kw : k < dW d := Nat.lt_of_lt_of_le hp3 (fs_le d id _)
  have W1 := W.1
  have hS := (W.2.1 k kw).2.1
  refine iterP2 (b := fun rec => fX10_setsOut_l62_b rec o (nI r) (nI p) (nI (ps (dS d) (fs d id p))) (nI k)) (z := fun _ _ => none) (fun m a Z => ∃ t, t ≤ dS d k ∧ m = dS d k - t ∧ a = nI t ∧ mfm o [47, 48, 49, 50, 51, 52] X Z ∧ xI Z o 47 = nI (ps (dS d) k + t) ∧ mpl Z o d id (ps (dS d) k + t) ∧ m1st Z o (ps (dS d) k + t)) (fun X1 => mfm o [47, 48, 49, 50, 51, 52] X X1 ∧ xI X1 o 47 = nI (ps (dS d) (k + 1)) ∧ mpl X1 o d id (ps (dS d) (k + 1)) ∧ m1st X1 o (ps (dS d) (k + 1))) ?_ FU (dS d k) _ _ (FUlt (by omega)) ⟨0, Nat.zero_le _, rfl, rfl, mfm.rf, hz, h1, h2⟩
  rintro m a Z ⟨t, ht, rfl, rfl, F, hz1, g1, g2⟩
  have L1 := L.mf F
  have R1 := R.mf F (by decide)
  have P1 : MPh Z o d id := by
    unfold MPh
    rw [F.I (k := 42) (by decide), F.A (k := 41) (by decide) (by decide) (by decide), F.A (k := 43) (by decide) (by decide) (by decide), F.A (k := 44) (by decide) (by decide) (by decide), F.A (k := 45) (by decide) (by decide) (by decide)]
    exact P
  by_cases htt : t = dS d k
  · left
    subst htt
    refine ⟨Z, fun rec => ?_, F, hz1, g1, g2⟩
    have c1 := (R1.2.2.1 k kw).1
    unfold fX10_setsOut_l62_b
    simp (disch := first | omega | assumption | apply b01_01 | (simp only [LM_wI, LM_wF]; assumption)) only [gK_M, gI_M, pI_M, rM1, aM1, uM1, rM4, aM4, uM4, rM5, aM5, uM5, rM6, aM6, rM9, aM9, rM11, aM11, uM11, rM12, aM12, uM12, rM13, aM13, uM13, rM14, aM14, uM14, rM15, aM15, uM15, rM16, aM16, uM16, rM17, aM17, uM17, rM18, aM18, uM18, rM19, aM19, uM19, rM20, aM20, uM20, rM23, aM23, uM23, rM24, aM24, uM24, rM25, aM25, uM25, rM26, aM26, uM26, rM27, aM27, uM27, rM30, aM30, uM30, rM31, aM31, uM31, rM32, aM32, uM32, rM33, aM33, uM33, rM34, aM34, uM34, rM35, aM35, uM35, rM36, aM36, uM36, rM37, aM37, uM37, rM41, aM41, uM41, rM43, aM43, uM43, rM44, aM44, uM44, rM45, aM45, uM45, rM46, aM46, uM46, rM48, aM48, uM48, rM49, aM49, uM49, rM50, aM50, uM50, rM51, aM51, uM51, rM52, aM52, uM52, rM53, aM53, uM53, rM54, aM54, uM54, rM56, aM56, uM56, uL_M6, sb, nI_add, nI_mul, nI_1, nI_subI, nI_p1, nI_m1, nI_z, nI_le0, nI_lt0, Int32.add_zero, Lt2, Lt3, Lt4, Lt5, Lt8, Lt9, Lt10, Lt16, Lt24, Lt50, Lt80, Lt240, Lt1060, Lt6, Lt7, Lt11, Lt12, Lt13, Lt99, Lt100, Lt1000, nI_leI, nI_ltI, nI_eq, leT, leF, ltT, ltF, nI_n0, if_true, if_false, not_true_eq_false, not_false_eq_true, xKd_wI, xLn_wI, xR_wI, xA_wI, xL_wI, xQ_wI, xKd_wF, xLn_wF, xR_wF, xI_wF, xL_wF, xQ_wF, c1]
  · right
    have hp : plc d id p k t := ⟨hp1, hp2, hp3, by omega⟩
    have hst := fun rec => m_so1 L1 hr R1 W P1 hp hz1 rec
    have f1 := soX_f Z o (ps (dS d) k + t) (nI k) (nI p) (nI (plN d id p k t)) (b01 (plN d id p k t = pS d id p - 1))
    obtain ⟨q1, q2, q3, q4, q5, q6⟩ := soX_A Z o (ps (dS d) k + t) (nI k) (nI p) (nI (plN d id p k t)) (b01 (plN d id p k t = pS d id p - 1))
    generalize soX Z o (ps (dS d) k + t) (nI k) (nI p) (nI (plN d id p k t)) (b01 (plN d id p k t = pS d id p - 1)) = Y at hst f1 q1 q2 q3 q4 q5 q6
    refine ⟨dS d k - (t + 1), nI (t + 1), Y, by omega, ⟨t + 1, by omega, rfl, rfl, F.tr f1, q6, ?_, ?_⟩, hst⟩
    · intro p' k' t' hp' hlt
      rw [q1, q2, q3, q4]
      by_cases e : ps (dS d) k' + t' = ps (dS d) k + t
      · obtain ⟨rfl, rfl, rfl⟩ := plc_inj hp' hp e
        rw [upE, upE, upE, upE]
        exact ⟨rfl, rfl, rfl, rfl⟩
      · rw [upN e, upN e, upN e, upN e]
        exact g1 p' k' t' hp' (by omega)
    · intro i hi
      rw [q5]
      by_cases e : i = ps (dS d) k + t
      · subst e
        rw [upN (by omega), upN (by omega), upE, upN (by omega), upE, upE]
        exact ⟨rfl, rfl, rfl⟩
      · rw [upN (by omega), upN (by omega), upN (by omega), upN (by omega), upN (by omega), upN (by omega), upN (by omega), upN (by omega), upN (by omega)]
        exact g2 i (by omega)
theorem MPh.mf {X1 : XW} {K : List Nat} (P : MPh X o d id) (F : mfm o K X X1) (hK : ∀ k, k ∈ K → k ∉ [41, 42, 43, 44, 45]) : MPh X1 o d id := by
  have e : ∀ k, k ∈ [41, 42, 43, 44, 45] → k ∉ K := fun k hk q => hK k q hk
  unfold MPh
  rw [F.I (k := 42) (e 42 (by decide)), F.A (k := 41) (e 41 (by decide)) (by decide) (by decide), F.A (k := 43) (e 43 (by decide)) (by decide) (by decide), F.A (k := 44) (e 44 (by decide)) (by decide) (by decide), F.A (k := 45) (e 45 (by decide)) (by decide) (by decide)]
  exact P
theorem m_so41 (L : LM X o) (hr : r < 4) (R : MRd X o r d) (W : WRd d) (P : MPh X o d id) {p : Nat} (hp1 : p < pN d id) (hz : xI X o 47 = nI (ps (dS d) (fs d id p))) (h1 : mpl X o d id (ps (dS d) (fs d id p))) (h2 : m1st X o (ps (dS d) (fs d id p))) :
    ∃ X1, fX10_setsOut_l41 o (nI r) (nI p) (nI (ps (dS d) (fs d id p))) FU (nI (fs d id p)) X = some X1 ∧ mfm o [47, 48, 49, 50, 51, 52] X X1 ∧ xI X1 o 47 = nI (ps (dS d) (fs d id (p + 1))) ∧ mpl X1 o d id (ps (dS d) (fs d id (p + 1))) ∧ m1st X1 o (ps (dS d) (fs d id (p + 1))) := by
  have W1 := W.1
  have hm := fs_mono d id p
  have hle := fs_le d id (p + 1)
  have hpn := pN_le d id
  refine iterP2 (b := fun rec => fX10_setsOut_l41_b rec o (nI r) (nI p) (nI (ps (dS d) (fs d id p)))) (z := fun _ _ => none) (fun m a Z => ∃ k, fs d id p ≤ k ∧ k ≤ fs d id (p + 1) ∧ m = fs d id (p + 1) - k ∧ a = nI k ∧ mfm o [47, 48, 49, 50, 51, 52] X Z ∧ xI Z o 47 = nI (ps (dS d) k) ∧ mpl Z o d id (ps (dS d) k) ∧ m1st Z o (ps (dS d) k)) (fun X1 => mfm o [47, 48, 49, 50, 51, 52] X X1 ∧ xI X1 o 47 = nI (ps (dS d) (fs d id (p + 1))) ∧ mpl X1 o d id (ps (dS d) (fs d id (p + 1))) ∧ m1st X1 o (ps (dS d) (fs d id (p + 1)))) ?_ FU (fs d id (p + 1) - fs d id p) _ _ (FUlt (by omega)) ⟨fs d id p, Nat.le_refl _, hm, rfl, rfl, mfm.rf, hz, h1, h2⟩
  rintro m a Z ⟨k, hk1, hk2, rfl, rfl, F, hz1, g1, g2⟩
  have L1 := L.mf F
  have R1 := R.mf F (by decide)
  have P1 := P.mf F (by decide)
  obtain ⟨e1, e2, -⟩ := P1.2.2 p hp1
  have e3 : fs d id p + (fs d id (p + 1) - fs d id p) = fs d id (p + 1) := by omega
  by_cases htt : k = fs d id (p + 1)
  · left
    subst htt
    refine ⟨Z, fun rec => ?_, F, hz1, g1, g2⟩
    unfold fX10_setsOut_l41_b
    simp (disch := first | omega | assumption | apply b01_01 | (simp only [LM_wI, LM_wF]; assumption)) only [gK_M, gI_M, pI_M, rM1, aM1, uM1, rM4, aM4, uM4, rM5, aM5, uM5, rM6, aM6, rM9, aM9, rM11, aM11, uM11, rM12, aM12, uM12, rM13, aM13, uM13, rM14, aM14, uM14, rM15, aM15, uM15, rM16, aM16, uM16, rM17, aM17, uM17, rM18, aM18, uM18, rM19, aM19, uM19, rM20, aM20, uM20, rM23, aM23, uM23, rM24, aM24, uM24, rM25, aM25, uM25, rM26, aM26, uM26, rM27, aM27, uM27, rM30, aM30, uM30, rM31, aM31, uM31, rM32, aM32, uM32, rM33, aM33, uM33, rM34, aM34, uM34, rM35, aM35, uM35, rM36, aM36, uM36, rM37, aM37, uM37, rM41, aM41, uM41, rM43, aM43, uM43, rM44, aM44, uM44, rM45, aM45, uM45, rM46, aM46, uM46, rM48, aM48, uM48, rM49, aM49, uM49, rM50, aM50, uM50, rM51, aM51, uM51, rM52, aM52, uM52, rM53, aM53, uM53, rM54, aM54, uM54, rM56, aM56, uM56, uL_M6, sb, nI_add, nI_mul, nI_1, nI_subI, nI_p1, nI_m1, nI_z, nI_le0, nI_lt0, Int32.add_zero, Lt2, Lt3, Lt4, Lt5, Lt8, Lt9, Lt10, Lt16, Lt24, Lt50, Lt80, Lt240, Lt1060, Lt6, Lt7, Lt11, Lt12, Lt13, Lt99, Lt100, Lt1000, nI_leI, nI_ltI, nI_eq, leT, leF, ltT, ltF, nI_n0, if_true, if_false, not_true_eq_false, not_false_eq_true, xKd_wI, xLn_wI, xR_wI, xA_wI, xL_wI, xQ_wI, xKd_wF, xLn_wF, xR_wF, xI_wF, xL_wF, xQ_wF, e1, e2, e3]
  · right
    obtain ⟨Z1, c1, c2, c3, c4, c5⟩ := m_so62 L1 hr R1 W P1 hp1 hk1 (by omega) hz1 g1 g2
    refine ⟨fs d id (p + 1) - (k + 1), nI (k + 1), Z1, by omega, ⟨k + 1, by omega, by omega, rfl, rfl, F.tr c2, c3, c4, c5⟩, fun rec => ?_⟩
    unfold fX10_setsOut_l41_b
    simp (disch := first | omega | assumption | apply b01_01 | (simp only [LM_wI, LM_wF]; assumption)) only [gK_M, gI_M, pI_M, rM1, aM1, uM1, rM4, aM4, uM4, rM5, aM5, uM5, rM6, aM6, rM9, aM9, rM11, aM11, uM11, rM12, aM12, uM12, rM13, aM13, uM13, rM14, aM14, uM14, rM15, aM15, uM15, rM16, aM16, uM16, rM17, aM17, uM17, rM18, aM18, uM18, rM19, aM19, uM19, rM20, aM20, uM20, rM23, aM23, uM23, rM24, aM24, uM24, rM25, aM25, uM25, rM26, aM26, uM26, rM27, aM27, uM27, rM30, aM30, uM30, rM31, aM31, uM31, rM32, aM32, uM32, rM33, aM33, uM33, rM34, aM34, uM34, rM35, aM35, uM35, rM36, aM36, uM36, rM37, aM37, uM37, rM41, aM41, uM41, rM43, aM43, uM43, rM44, aM44, uM44, rM45, aM45, uM45, rM46, aM46, uM46, rM48, aM48, uM48, rM49, aM49, uM49, rM50, aM50, uM50, rM51, aM51, uM51, rM52, aM52, uM52, rM53, aM53, uM53, rM54, aM54, uM54, rM56, aM56, uM56, uL_M6, sb, nI_add, nI_mul, nI_1, nI_subI, nI_p1, nI_m1, nI_z, nI_le0, nI_lt0, Int32.add_zero, Lt2, Lt3, Lt4, Lt5, Lt8, Lt9, Lt10, Lt16, Lt24, Lt50, Lt80, Lt240, Lt1060, Lt6, Lt7, Lt11, Lt12, Lt13, Lt99, Lt100, Lt1000, nI_leI, nI_ltI, nI_eq, leT, leF, ltT, ltF, nI_n0, if_true, if_false, not_true_eq_false, not_false_eq_true, xKd_wI, xLn_wI, xR_wI, xA_wI, xL_wI, xQ_wI, xKd_wF, xLn_wF, xR_wF, xI_wF, xL_wF, xQ_wF, e1, e2, e3, c1]
/-- what the reference has laid out -/
def MLay (X : XW) (o : Nat) (d : Rd) (id : Nat) : Prop := MPh X o d id ∧ xI X o 47 = nI (dZ d) ∧ mpl X o d id (dZ d) ∧ macc X o d id (pN d id)
theorem m_setsOut (L : LM X o) (hr : r < 4) (R : MRd X o r d) (W : WRd d) (hid : xI X o 38 = nI id) (hid2 : id ≤ 20) :
    ∃ X1, fX10_setsOut o (nI r) X = some X1 ∧ mfm o [41, 42, 43, 44, 45, 46, 47, 48, 49, 50, 51, 52] X X1 ∧ MLay X1 o d id ∧ m1st X1 o (dZ d) := by
  have W1 := W.1
  obtain ⟨Y, hY, FY, P⟩ := m_findPhrases L hr R W hid hid2
  have hpe := pN_e d id
  have hpn := pN_le d id
  have hl : ∃ X1, fX10_setsOut_l12 o (nI r) FU 0 (wI Y o 47 0) = some X1 ∧ mfm o [46, 47, 48, 49, 50, 51, 52] Y X1 ∧ xI X1 o 47 = nI (dZ d) ∧ mpl X1 o d id (dZ d) ∧ m1st X1 o (dZ d) ∧ macc X1 o d id (pN d id) := by
    refine iterP2 (b := fun rec => fX10_setsOut_l12_b rec o (nI r)) (z := fun _ _ => none) (fun m a Z => ∃ p, p ≤ pN d id ∧ m = pN d id - p ∧ a = nI p ∧ mfm o [46, 47, 48, 49, 50, 51, 52] Y Z ∧ xI Z o 47 = nI (ps (dS d) (fs d id p)) ∧ mpl Z o d id (ps (dS d) (fs d id p)) ∧ m1st Z o (ps (dS d) (fs d id p)) ∧ macc Z o d id p) (fun X1 => mfm o [46, 47, 48, 49, 50, 51, 52] Y X1 ∧ xI X1 o 47 = nI (dZ d) ∧ mpl X1 o d id (dZ d) ∧ m1st X1 o (dZ d) ∧ macc X1 o d id (pN d id)) ?_ FU (pN d id) _ _ (FUlt (by omega)) ⟨0, Nat.zero_le _, rfl, rfl, mfm.wI (by decide), by rw [xI_wI, if_pos ⟨rfl, rfl⟩]; rfl, fun p k t hp hlt => absurd hlt (Nat.not_lt_zero _), fun i hi => absurd hi (Nat.not_lt_zero _), fun p w hp => absurd hp (Nat.not_lt_zero _)⟩
    rintro m a Z ⟨p, hp, rfl, rfl, F, hz1, g1, g2, g3⟩
    have L1 := (L.mf FY).mf F
    have R1 := (R.mf FY (by decide)).mf F (by decide)
    have P1 := P.mf F (by decide)
    by_cases hpp : p = pN d id
    · left
      have e : ps (dS d) (fs d id p) = dZ d := by rw [hpp, hpe]; rfl
      rw [e] at hz1 g1 g2
      refine ⟨Z, fun rec => ?_, F, hz1, g1, g2, by rw [← hpp]; exact g3⟩
      unfold fX10_setsOut_l12_b
      simp (disch := first | omega | assumption | apply b01_01 | (simp only [LM_wI, LM_wF]; assumption)) only [gK_M, gI_M, pI_M, rM1, aM1, uM1, rM4, aM4, uM4, rM5, aM5, uM5, rM6, aM6, rM9, aM9, rM11, aM11, uM11, rM12, aM12, uM12, rM13, aM13, uM13, rM14, aM14, uM14, rM15, aM15, uM15, rM16, aM16, uM16, rM17, aM17, uM17, rM18, aM18, uM18, rM19, aM19, uM19, rM20, aM20, uM20, rM23, aM23, uM23, rM24, aM24, uM24, rM25, aM25, uM25, rM26, aM26, uM26, rM27, aM27, uM27, rM30, aM30, uM30, rM31, aM31, uM31, rM32, aM32, uM32, rM33, aM33, uM33, rM34, aM34, uM34, rM35, aM35, uM35, rM36, aM36, uM36, rM37, aM37, uM37, rM41, aM41, uM41, rM43, aM43, uM43, rM44, aM44, uM44, rM45, aM45, uM45, rM46, aM46, uM46, rM48, aM48, uM48, rM49, aM49, uM49, rM50, aM50, uM50, rM51, aM51, uM51, rM52, aM52, uM52, rM53, aM53, uM53, rM54, aM54, uM54, rM56, aM56, uM56, uL_M6, sb, nI_add, nI_mul, nI_1, nI_subI, nI_p1, nI_m1, nI_z, nI_le0, nI_lt0, Int32.add_zero, Lt2, Lt3, Lt4, Lt5, Lt8, Lt9, Lt10, Lt16, Lt24, Lt50, Lt80, Lt240, Lt1060, Lt6, Lt7, Lt11, Lt12, Lt13, Lt99, Lt100, Lt1000, nI_leI, nI_ltI, nI_eq, leT, leF, ltT, ltF, nI_n0, if_true, if_false, not_true_eq_false, not_false_eq_true, xKd_wI, xLn_wI, xR_wI, xA_wI, xL_wI, xQ_wI, xKd_wF, xLn_wF, xR_wF, xI_wF, xL_wF, xQ_wF, P1.1]
    · right
      have hlt : p < pN d id := by omega
      have hac := m_accents L1 hr R1 W P1 hlt
      generalize hY1 : wF Z (mA o 46) (cpF (xA Z (mA o 46)) (aF d (fs d id p) (fs d id (p + 1))) (fs d id p) (fs d id (p + 1) - fs d id p)) = Y1 at hac
      have F1 : mfm o [46] Z Y1 := by rw [← hY1]; exact mfm.wF (by decide) (by decide) (by decide)
      have L2 := L1.mf F1
      have P2 := P1.mf F1 (by decide)
      have z2 : xI Y1 o 47 = nI (ps (dS d) (fs d id p)) := by rw [F1.I (by decide)]; exact hz1
      obtain ⟨Z1, c1, c2, c3, c4, c5⟩ := m_so41 L2 hr (R1.mf F1 (by decide)) W P2 hlt z2 (by unfold mpl; rw [F1.A (k := 48) (by decide) (by decide) (by decide), F1.A (k := 49) (by decide) (by decide) (by decide), F1.A (k := 50) (by decide) (by decide) (by decide), F1.A (k := 51) (by decide) (by decide) (by decide)]; exact g1) (by unfold m1st; rw [F1.A (k := 52) (by decide) (by decide) (by decide)]; exact g2)
      obtain ⟨e1, -⟩ := P2.2.2 p hlt
      refine ⟨pN d id - (p + 1), nI (p + 1), Z1, by omega, ⟨p + 1, by omega, rfl, rfl, (F.tr (F1.wk (by decide))).tr (c2.wk (by decide)), c3, c4, c5, ?_⟩, fun rec => ?_⟩
      · intro p' w hp' hw1 hw2
        rw [c2.A (k := 46) (by decide) (by decide) (by decide), ← hY1, xA_wFe]
        have hm := fs_mono d id p
        by_cases e : p' = p
        · subst e
          unfold cpF
          rw [if_pos (by omega)]
        · have := fs_mono2 d id (show p' + 1 ≤ p by omega)
          unfold cpF
          rw [if_neg (by omega)]
          exact g3 p' w (by omega) hw1 hw2
      · unfold fX10_setsOut_l12_b
        simp (disch := first | omega | assumption | apply b01_01 | (simp only [LM_wI, LM_wF]; assumption)) only [gK_M, gI_M, pI_M, rM1, aM1, uM1, rM4, aM4, uM4, rM5, aM5, uM5, rM6, aM6, rM9, aM9, rM11, aM11, uM11, rM12, aM12, uM12, rM13, aM13, uM13, rM14, aM14, uM14, rM15, aM15, uM15, rM16, aM16, uM16, rM17, aM17, uM17, rM18, aM18, uM18, rM19, aM19, uM19, rM20, aM20, uM20, rM23, aM23, uM23, rM24, aM24, uM24, rM25, aM25, uM25, rM26, aM26, uM26, rM27, aM27, uM27, rM30, aM30, uM30, rM31, aM31, uM31, rM32, aM32, uM32, rM33, aM33, uM33, rM34, aM34, uM34, rM35, aM35, uM35, rM36, aM36, uM36, rM37, aM37, uM37, rM41, aM41, uM41, rM43, aM43, uM43, rM44, aM44, uM44, rM45, aM45, uM45, rM46, aM46, uM46, rM48, aM48, uM48, rM49, aM49, uM49, rM50, aM50, uM50, rM51, aM51, uM51, rM52, aM52, uM52, rM53, aM53, uM53, rM54, aM54, uM54, rM56, aM56, uM56, uL_M6, sb, nI_add, nI_mul, nI_1, nI_subI, nI_p1, nI_m1, nI_z, nI_le0, nI_lt0, Int32.add_zero, Lt2, Lt3, Lt4, Lt5, Lt8, Lt9, Lt10, Lt16, Lt24, Lt50, Lt80, Lt240, Lt1060, Lt6, Lt7, Lt11, Lt12, Lt13, Lt99, Lt100, Lt1000, nI_leI, nI_ltI, nI_eq, leT, leF, ltT, ltF, nI_n0, if_true, if_false, not_true_eq_false, not_false_eq_true, xKd_wI, xLn_wI, xR_wI, xA_wI, xL_wI, xQ_wI, xKd_wF, xLn_wF, xR_wF, xI_wF, xL_wF, xQ_wF, P1.1, hac, z2, e1, c1]
  obtain ⟨Z, h1, h2, h3, h4, h5, h6⟩ := hl
  refine ⟨Z, ?_, (FY.wk (by decide)).tr (h2.wk (by decide)), ⟨P.mf h2 (by decide), h3, h4, h6⟩, h5⟩
  unfold fX10_setsOut
  rw [gK_M L, sb, hY, sb, pI_M (L.mf FY), sb, h1, sb]
end MLay
