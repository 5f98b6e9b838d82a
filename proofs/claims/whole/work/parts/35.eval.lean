/-! WHAT A SYLLABLE KNOWS, by its number; the reference's 'knows' -/
def fw (f : Nat → Nat) (i : Nat) : Nat → Nat
  | 0 => 0
  | n + 1 => if ps f (n + 1) ≤ i then n + 1 else fw f i n
def fp (d : Rd) (id k : Nat) : Nat → Nat
  | 0 => 0
  | n + 1 => if fs d id (n + 1) ≤ k then n + 1 else fp d id k n
theorem fw_e {f : Nat → Nat} {k t : Nat} (ht : t < f k) : ∀ n, k ≤ n → fw f (ps f k + t) n = k
  | 0, h => (Nat.le_zero.mp h).symm
  | n + 1, h => by
    have h2 : ps f (k + 1) = ps f k + f k := rfl
    by_cases hk : k = n + 1
    · subst hk
      exact if_pos (by omega)
    · have h1 : ps f (k + 1) ≤ ps f (n + 1) := ps_mono (by omega)
      show (if ps f (n + 1) ≤ _ then n + 1 else fw f _ n) = k
      rw [if_neg (by omega)]
      exact fw_e ht n (by omega)
theorem fp_e {d : Rd} {id p k : Nat} (h1 : fs d id p ≤ k) (h2 : k < fs d id (p + 1)) : ∀ n, p ≤ n → fp d id k n = p
  | 0, h => (Nat.le_zero.mp h).symm
  | n + 1, h => by
    by_cases hk : p = n + 1
    · subst hk
      exact if_pos h1
    · have h3 := fs_mono2 d id (show p + 1 ≤ n + 1 by omega)
      show (if fs d id (n + 1) ≤ k then n + 1 else fp d id k n) = p
      rw [if_neg (by omega)]
      exact fp_e h1 h2 n (by omega)
def kq (d : Rd) (id i w : Nat) : Int32 := kv d id w (fp d id (fw (dS d) i (dW d)) (pN d id)) (fw (dS d) i (dW d)) (i - ps (dS d) (fw (dS d) i (dW d)))
theorem kq_e {d : Rd} {id p k t : Nat} (h : plc d id p k t) (w : Nat) : kq d id (ps (dS d) k + t) w = kv d id w p k t := by
  unfold kq
  rw [fw_e h.2.2.2 _ (Nat.le_of_lt (plc_w h)), fp_e h.2.1 h.2.2.1 _ (Nat.le_of_lt h.1), Nat.add_sub_cancel_left]
theorem kq_12 (d : Rd) (id i : Nat) : kq d id i 12 = nI (dU d) := rfl
section MKn
variable {X : XW} {o r id : Nat} {d : Rd}
theorem uM26_0 (L : LM X o) {w : Int32} : uI X (mA o 26) 0 w = some (wF X (mA o 26) (va_up (xA X (mA o 26)) 0 w)) := uM26 L (i := 0) (by decide)
theorem uM26_1 (L : LM X o) {w : Int32} : uI X (mA o 26) 1 w = some (wF X (mA o 26) (va_up (xA X (mA o 26)) 1 w)) := uM26 L (i := 1) (by decide)
theorem MLay.mf {X1 : XW} {K : List Nat} (P : MLay X o d id) (F : mfm o K X X1) (hK : ∀ k, k ∈ K → k ∉ [41, 42, 43, 44, 45, 46, 47, 48, 49, 50, 51]) : MLay X1 o d id := by
  have e : ∀ k, k ∈ [41, 42, 43, 44, 45, 46, 47, 48, 49, 50, 51] → k ∉ K := fun k hk q => hK k q hk
  refine ⟨P.1.mf F (fun k hk q => hK k hk ?_), ?_, ?_, ?_⟩
  · simp only [List.mem_cons, List.not_mem_nil, or_false] at q ⊢
    omega
  · rw [F.I (k := 47) (e 47 (by decide))]
    exact P.2.1
  · unfold mpl
    rw [F.A (k := 48) (e 48 (by decide)) (by decide) (by decide), F.A (k := 49) (e 49 (by decide)) (by decide) (by decide), F.A (k := 50) (e 50 (by decide)) (by decide) (by decide), F.A (k := 51) (e 51 (by decide)) (by decide) (by decide)]
    exact P.2.2.1
  · unfold macc
    rw [F.A (k := 46) (e 46 (by decide)) (by decide) (by decide)]
    exact P.2.2.2
theorem m_kn10 (L : LM X o) (W : WRd d) (P : MLay X o d id) {p k t : Nat} (hp : plc d id p k t) {l1 l2 : Int32} : fX10_knows_l10 o l1 l2 (nI k) FU (nI (ps (dS d) k + t)) X = some (nI (ps (dS d) k), X) := by
  have hz := plc_z hp
  have W80 := W.z
  have W1 := W.1
  have kw := plc_w hp
  have hpp := hp
  obtain ⟨hp1, hp2, hp3, hp4⟩ := hpp
  refine iter2 (b := fun rec => fX10_knows_l10_b rec o l1 l2 (nI k)) (z := fun _ _ => none) (s1 := fun j => nI (ps (dS d) k + t - j)) (sX := fun _ => X) (N := t) (res := (nI (ps (dS d) k), X)) ?_ ?_ (n := FU) (FUlt (by omega))
  · intro j hj rec
    have hpj : plc d id p k (t - j - 1) := ⟨hp1, hp2, hp3, by omega⟩
    have h1 := (P.2.2.1 p k (t - j - 1) hpj (plc_z hpj)).1
    have e : ps (dS d) k + t - j - 1 = ps (dS d) k + (t - j - 1) := by omega
    unfold fX10_knows_l10_b
    rw [if_neg (nI_nle (by omega) (by omega)), rM48 L, sb, nI_p1 (by omega), e, aM48 L (by omega), sb, h1, if_pos rfl, nI_m1 (by omega), e, show ps (dS d) k + (t - j - 1) = ps (dS d) k + t - (j + 1) by omega]
  · intro rec
    rw [Nat.add_sub_cancel]
    unfold fX10_knows_l10_b
    by_cases h0 : ps (dS d) k = 0
    · rw [h0, if_pos (by decide)]
    · rw [if_neg (nI_nle (by omega) (by omega)), rM48 L, sb, nI_p1 (by omega), aM48 L (by omega), sb]
      obtain ⟨p', k', t', hp', e'⟩ := plc_ex id (d := d) (i := ps (dS d) k - 1) (by omega)
      have h1 := (P.2.2.1 p' k' t' hp' (by omega)).1
      rw [← e'] at h1
      have kw' := plc_w hp'
      have hkk : k' ≠ k := by
        intro q
        subst q
        omega
      rw [h1, if_neg (fun q => hkk ((nI_eq (by omega) (by omega)).mp q))]
/-- the thirteen values -/
def k13 (g : Nat → Nat → Int32) (d : Rd) (id i w : Nat) : Int32 := if w < 3 then g i w else kq d id i w
theorem m_knows (L : LM X o) (hr : r < 4) (R : MRd X o r d) (W : WRd d) (P : MLay X o d id) {g : Nat → Nat → Int32} {i : Nat} (hi : i < dZ d) (hg : ∀ w, w < 3 → xA X (mA o 52) (3 * i + w) = g i w) :
    ∃ X1, fX10_knows o (nI r) (nI i) X = some X1 ∧ mfm o [26] X X1 ∧ ∀ w, w < 13 → xA X1 (mA o 26) w = k13 g d id i w := by
  obtain ⟨p, k, t, hp, rfl⟩ := plc_ex id hi
  have W80 := W.z
  have W1 := W.1
  have kw := plc_w hp
  have hpn := pN_le d id
  obtain ⟨b1, b2⟩ := plc_b hp
  have h10 := fun l1 l2 => m_kn10 (l1 := l1) (l2 := l2) L W P hp
  obtain ⟨q1, q2, q3, q4⟩ := P.2.2.1 p k t hp hi
  have q5 := P.2.2.2 p k hp.1 hp.2.1 hp.2.2.1
  obtain ⟨c1, c2, c3, c4, c5⟩ := R.2.2.1 k kw
  have c6 := R.2.1
  have c7 := P.1.1
  have c8 := (P.1.2.2 p hp.1).2.2
  have hT := (W.2.1 k kw).2.2.1
  have hS := (W.2.1 k kw).2.1
  have g0 : xA X (mA o 52) (3 * (ps (dS d) k + t)) = g (ps (dS d) k + t) 0 := hg 0 (by decide)
  have g1 := hg 1 (by decide)
  have g2 := hg 2 (by decide)
  have e5 : ps (dS d) k + t - ps (dS d) k = t := Nat.add_sub_cancel_left ..
  have e4b : pS d id p = ps (dS d) (fs d id (p + 1)) - ps (dS d) (fs d id p) := rfl
  have epl : plN d id p k t = ps (dS d) k + t - ps (dS d) (fs d id p) := rfl
  have ez : ps (dS d) (fs d id (p + 1)) ≤ dZ d := ps_mono (fs_le d id (p + 1))
  have hp1 := hp.1
  have kqe := fun w => kq_e hp w
  have hkn : fX10_knows o (nI r) (nI (ps (dS d) k + t)) X = some (wF X (mA o 26) (va_up (va_up (va_up (va_up (va_up (va_up (va_up (va_up (va_up (va_up (va_up (va_up (va_up (xA X (mA o 26)) 0 (g (ps (dS d) k + t) 0)) 1 (g (ps (dS d) k + t) 1)) 2 (g (ps (dS d) k + t) 2)) 3 (kv d id 3 p k t)) 4 (kv d id 4 p k t)) 5 (kv d id 5 p k t)) 6 (kv d id 6 p k t)) 7 (kv d id 7 p k t)) 8 (kv d id 8 p k t)) 9 (kv d id 9 p k t)) 10 (kv d id 10 p k t)) 11 (kv d id 11 p k t)) 12 (kv d id 12 p k t))) := by
    unfold fX10_knows
    simp only [mi57]
    simp (disch := first | omega | assumption | apply b01_01 | (simp only [LM_wI, LM_wF]; assumption)) only [gK_M, gI_M, pI_M, rM1, aM1, uM1, rM4, aM4, uM4, rM5, aM5, uM5, rM6, aM6, rM9, aM9, rM11, aM11, uM11, rM12, aM12, uM12, rM13, aM13, uM13, rM14, aM14, uM14, rM15, aM15, uM15, rM16, aM16, uM16, rM17, aM17, uM17, rM18, aM18, uM18, rM19, aM19, uM19, rM20, aM20, uM20, rM23, aM23, uM23, rM24, aM24, uM24, rM25, aM25, uM25, rM26, aM26, uM26, rM27, aM27, uM27, rM30, aM30, uM30, rM31, aM31, uM31, rM32, aM32, uM32, rM33, aM33, uM33, rM34, aM34, uM34, rM35, aM35, uM35, rM36, aM36, uM36, rM37, aM37, uM37, rM41, aM41, uM41, rM43, aM43, uM43, rM44, aM44, uM44, rM45, aM45, uM45, rM46, aM46, uM46, rM48, aM48, uM48, rM49, aM49, uM49, rM50, aM50, uM50, rM51, aM51, uM51, rM52, aM52, uM52, rM53, aM53, uM53, rM54, aM54, uM54, rM56, aM56, uM56, uL_M6, sb, nI_add, nI_mul, nI_1, nI_subI, nI_p1, nI_m1, nI_z, nI_le0, nI_lt0, Int32.add_zero, Lt2, Lt3, Lt4, Lt5, Lt8, Lt9, Lt10, Lt16, Lt24, Lt50, Lt80, Lt240, Lt1060, Lt6, Lt7, Lt11, Lt12, Lt13, Lt99, Lt100, Lt1000, nI_leI, nI_ltI, nI_eq, leT, leF, ltT, ltF, nI_n0, if_true, if_false, not_true_eq_false, not_false_eq_true, xKd_wI, xLn_wI, xR_wI, xA_wI, xL_wI, xQ_wI, xKd_wF, xLn_wF, xR_wF, xI_wF, xL_wF, xQ_wF, q1, h10, c2, e5]
    unfold fX10_knows_j57
    simp only [mi158]
    simp (disch := first | omega | assumption | apply b01_01 | (simp only [LM_wI, LM_wF]; assumption)) only [gK_M, gI_M, pI_M, rM1, aM1, uM1, rM4, aM4, uM4, rM5, aM5, uM5, rM6, aM6, rM9, aM9, rM11, aM11, uM11, rM12, aM12, uM12, rM13, aM13, uM13, rM14, aM14, uM14, rM15, aM15, uM15, rM16, aM16, uM16, rM17, aM17, uM17, rM18, aM18, uM18, rM19, aM19, uM19, rM20, aM20, uM20, rM23, aM23, uM23, rM24, aM24, uM24, rM25, aM25, uM25, rM26, aM26, uM26, rM27, aM27, uM27, rM30, aM30, uM30, rM31, aM31, uM31, rM32, aM32, uM32, rM33, aM33, uM33, rM34, aM34, uM34, rM35, aM35, uM35, rM36, aM36, uM36, rM37, aM37, uM37, rM41, aM41, uM41, rM43, aM43, uM43, rM44, aM44, uM44, rM45, aM45, uM45, rM46, aM46, uM46, rM48, aM48, uM48, rM49, aM49, uM49, rM50, aM50, uM50, rM51, aM51, uM51, rM52, aM52, uM52, rM53, aM53, uM53, rM54, aM54, uM54, rM56, aM56, uM56, uL_M6, sb, nI_add, nI_mul, nI_1, nI_subI, nI_p1, nI_m1, nI_z, nI_le0, nI_lt0, Int32.add_zero, Lt2, Lt3, Lt4, Lt5, Lt8, Lt9, Lt10, Lt16, Lt24, Lt50, Lt80, Lt240, Lt1060, Lt6, Lt7, Lt11, Lt12, Lt13, Lt99, Lt100, Lt1000, nI_leI, nI_ltI, nI_eq, leT, leF, ltT, ltF, nI_n0, if_true, if_false, not_true_eq_false, not_false_eq_true, xKd_wI, xLn_wI, xR_wI, xA_wI, xL_wI, xQ_wI, xKd_wF, xLn_wF, xR_wF, xI_wF, xL_wF, xQ_wF, uM26_0, uM26_1, q2, q3, c8, g0, g1, g2, xA_wFm, xA_wFe, wF_wF, Nat.add_zero]
    unfold fX10_knows_j158
    simp (disch := first | omega | assumption | apply b01_01 | (simp only [LM_wI, LM_wF]; assumption)) only [gK_M, gI_M, pI_M, rM1, aM1, uM1, rM4, aM4, uM4, rM5, aM5, uM5, rM6, aM6, rM9, aM9, rM11, aM11, uM11, rM12, aM12, uM12, rM13, aM13, uM13, rM14, aM14, uM14, rM15, aM15, uM15, rM16, aM16, uM16, rM17, aM17, uM17, rM18, aM18, uM18, rM19, aM19, uM19, rM20, aM20, uM20, rM23, aM23, uM23, rM24, aM24, uM24, rM25, aM25, uM25, rM26, aM26, uM26, rM27, aM27, uM27, rM30, aM30, uM30, rM31, aM31, uM31, rM32, aM32, uM32, rM33, aM33, uM33, rM34, aM34, uM34, rM35, aM35, uM35, rM36, aM36, uM36, rM37, aM37, uM37, rM41, aM41, uM41, rM43, aM43, uM43, rM44, aM44, uM44, rM45, aM45, uM45, rM46, aM46, uM46, rM48, aM48, uM48, rM49, aM49, uM49, rM50, aM50, uM50, rM51, aM51, uM51, rM52, aM52, uM52, rM53, aM53, uM53, rM54, aM54, uM54, rM56, aM56, uM56, uL_M6, sb, nI_add, nI_mul, nI_1, nI_subI, nI_p1, nI_m1, nI_z, nI_le0, nI_lt0, Int32.add_zero, Lt2, Lt3, Lt4, Lt5, Lt8, Lt9, Lt10, Lt16, Lt24, Lt50, Lt80, Lt240, Lt1060, Lt6, Lt7, Lt11, Lt12, Lt13, Lt99, Lt100, Lt1000, nI_leI, nI_ltI, nI_eq, leT, leF, ltT, ltF, nI_n0, if_true, if_false, not_true_eq_false, not_false_eq_true, xKd_wI, xLn_wI, xR_wI, xA_wI, xL_wI, xQ_wI, xKd_wF, xLn_wF, xR_wF, xI_wF, xL_wF, xQ_wF, b01_0, q5, xA_wFm, xA_wFe, wF_wF]
    simp only [mi184]
    unfold fX10_knows_j184
    simp only [mi210]
    simp (disch := first | omega | assumption | apply b01_01 | (simp only [LM_wI, LM_wF]; assumption)) only [gK_M, gI_M, pI_M, rM1, aM1, uM1, rM4, aM4, uM4, rM5, aM5, uM5, rM6, aM6, rM9, aM9, rM11, aM11, uM11, rM12, aM12, uM12, rM13, aM13, uM13, rM14, aM14, uM14, rM15, aM15, uM15, rM16, aM16, uM16, rM17, aM17, uM17, rM18, aM18, uM18, rM19, aM19, uM19, rM20, aM20, uM20, rM23, aM23, uM23, rM24, aM24, uM24, rM25, aM25, uM25, rM26, aM26, uM26, rM27, aM27, uM27, rM30, aM30, uM30, rM31, aM31, uM31, rM32, aM32, uM32, rM33, aM33, uM33, rM34, aM34, uM34, rM35, aM35, uM35, rM36, aM36, uM36, rM37, aM37, uM37, rM41, aM41, uM41, rM43, aM43, uM43, rM44, aM44, uM44, rM45, aM45, uM45, rM46, aM46, uM46, rM48, aM48, uM48, rM49, aM49, uM49, rM50, aM50, uM50, rM51, aM51, uM51, rM52, aM52, uM52, rM53, aM53, uM53, rM54, aM54, uM54, rM56, aM56, uM56, uL_M6, sb, nI_add, nI_mul, nI_1, nI_subI, nI_p1, nI_m1, nI_z, nI_le0, nI_lt0, Int32.add_zero, Lt2, Lt3, Lt4, Lt5, Lt8, Lt9, Lt10, Lt16, Lt24, Lt50, Lt80, Lt240, Lt1060, Lt6, Lt7, Lt11, Lt12, Lt13, Lt99, Lt100, Lt1000, nI_leI, nI_ltI, nI_eq, leT, leF, ltT, ltF, nI_n0, if_true, if_false, not_true_eq_false, not_false_eq_true, xKd_wI, xLn_wI, xR_wI, xA_wI, xL_wI, xQ_wI, xKd_wF, xLn_wF, xR_wF, xI_wF, xL_wF, xQ_wF, c4, xA_wFm, xA_wFe, wF_wF]
    unfold fX10_knows_j210
    simp only [mi236]
    simp (disch := first | omega | assumption | apply b01_01 | (simp only [LM_wI, LM_wF]; assumption)) only [gK_M, gI_M, pI_M, rM1, aM1, uM1, rM4, aM4, uM4, rM5, aM5, uM5, rM6, aM6, rM9, aM9, rM11, aM11, uM11, rM12, aM12, uM12, rM13, aM13, uM13, rM14, aM14, uM14, rM15, aM15, uM15, rM16, aM16, uM16, rM17, aM17, uM17, rM18, aM18, uM18, rM19, aM19, uM19, rM20, aM20, uM20, rM23, aM23, uM23, rM24, aM24, uM24, rM25, aM25, uM25, rM26, aM26, uM26, rM27, aM27, uM27, rM30, aM30, uM30, rM31, aM31, uM31, rM32, aM32, uM32, rM33, aM33, uM33, rM34, aM34, uM34, rM35, aM35, uM35, rM36, aM36, uM36, rM37, aM37, uM37, rM41, aM41, uM41, rM43, aM43, uM43, rM44, aM44, uM44, rM45, aM45, uM45, rM46, aM46, uM46, rM48, aM48, uM48, rM49, aM49, uM49, rM50, aM50, uM50, rM51, aM51, uM51, rM52, aM52, uM52, rM53, aM53, uM53, rM54, aM54, uM54, rM56, aM56, uM56, uL_M6, sb, nI_add, nI_mul, nI_1, nI_subI, nI_p1, nI_m1, nI_z, nI_le0, nI_lt0, Int32.add_zero, Lt2, Lt3, Lt4, Lt5, Lt8, Lt9, Lt10, Lt16, Lt24, Lt50, Lt80, Lt240, Lt1060, Lt6, Lt7, Lt11, Lt12, Lt13, Lt99, Lt100, Lt1000, nI_leI, nI_ltI, nI_eq, leT, leF, ltT, ltF, nI_n0, if_true, if_false, not_true_eq_false, not_false_eq_true, xKd_wI, xLn_wI, xR_wI, xA_wI, xL_wI, xQ_wI, xKd_wF, xLn_wF, xR_wF, xI_wF, xL_wF, xQ_wF, c5, xA_wFm, xA_wFe, wF_wF]
    unfold fX10_knows_j236
    simp only [mi276]
    simp (disch := first | omega | assumption | apply b01_01 | (simp only [LM_wI, LM_wF]; assumption)) only [gK_M, gI_M, pI_M, rM1, aM1, uM1, rM4, aM4, uM4, rM5, aM5, uM5, rM6, aM6, rM9, aM9, rM11, aM11, uM11, rM12, aM12, uM12, rM13, aM13, uM13, rM14, aM14, uM14, rM15, aM15, uM15, rM16, aM16, uM16, rM17, aM17, uM17, rM18, aM18, uM18, rM19, aM19, uM19, rM20, aM20, uM20, rM23, aM23, uM23, rM24, aM24, uM24, rM25, aM25, uM25, rM26, aM26, uM26, rM27, aM27, uM27, rM30, aM30, uM30, rM31, aM31, uM31, rM32, aM32, uM32, rM33, aM33, uM33, rM34, aM34, uM34, rM35, aM35, uM35, rM36, aM36, uM36, rM37, aM37, uM37, rM41, aM41, uM41, rM43, aM43, uM43, rM44, aM44, uM44, rM45, aM45, uM45, rM46, aM46, uM46, rM48, aM48, uM48, rM49, aM49, uM49, rM50, aM50, uM50, rM51, aM51, uM51, rM52, aM52, uM52, rM53, aM53, uM53, rM54, aM54, uM54, rM56, aM56, uM56, uL_M6, sb, nI_add, nI_mul, nI_1, nI_subI, nI_p1, nI_m1, nI_z, nI_le0, nI_lt0, Int32.add_zero, Lt2, Lt3, Lt4, Lt5, Lt8, Lt9, Lt10, Lt16, Lt24, Lt50, Lt80, Lt240, Lt1060, Lt6, Lt7, Lt11, Lt12, Lt13, Lt99, Lt100, Lt1000, nI_leI, nI_ltI, nI_eq, leT, leF, ltT, ltF, nI_n0, if_true, if_false, not_true_eq_false, not_false_eq_true, xKd_wI, xLn_wI, xR_wI, xA_wI, xL_wI, xQ_wI, xKd_wF, xLn_wF, xR_wF, xI_wF, xL_wF, xQ_wF, q2, c7, xA_wFm, xA_wFe, wF_wF]
    unfold fX10_knows_j276
    simp (disch := first | omega | assumption | apply b01_01 | (simp only [LM_wI, LM_wF]; assumption)) only [gK_M, gI_M, pI_M, rM1, aM1, uM1, rM4, aM4, uM4, rM5, aM5, uM5, rM6, aM6, rM9, aM9, rM11, aM11, uM11, rM12, aM12, uM12, rM13, aM13, uM13, rM14, aM14, uM14, rM15, aM15, uM15, rM16, aM16, uM16, rM17, aM17, uM17, rM18, aM18, uM18, rM19, aM19, uM19, rM20, aM20, uM20, rM23, aM23, uM23, rM24, aM24, uM24, rM25, aM25, uM25, rM26, aM26, uM26, rM27, aM27, uM27, rM30, aM30, uM30, rM31, aM31, uM31, rM32, aM32, uM32, rM33, aM33, uM33, rM34, aM34, uM34, rM35, aM35, uM35, rM36, aM36, uM36, rM37, aM37, uM37, rM41, aM41, uM41, rM43, aM43, uM43, rM44, aM44, uM44, rM45, aM45, uM45, rM46, aM46, uM46, rM48, aM48, uM48, rM49, aM49, uM49, rM50, aM50, uM50, rM51, aM51, uM51, rM52, aM52, uM52, rM53, aM53, uM53, rM54, aM54, uM54, rM56, aM56, uM56, uL_M6, sb, nI_add, nI_mul, nI_1, nI_subI, nI_p1, nI_m1, nI_z, nI_le0, nI_lt0, Int32.add_zero, Lt2, Lt3, Lt4, Lt5, Lt8, Lt9, Lt10, Lt16, Lt24, Lt50, Lt80, Lt240, Lt1060, Lt6, Lt7, Lt11, Lt12, Lt13, Lt99, Lt100, Lt1000, nI_leI, nI_ltI, nI_eq, leT, leF, ltT, ltF, nI_n0, if_true, if_false, not_true_eq_false, not_false_eq_true, xKd_wI, xLn_wI, xR_wI, xA_wI, xL_wI, xQ_wI, xKd_wF, xLn_wF, xR_wF, xI_wF, xL_wF, xQ_wF, c6, xA_wFm, xA_wFe, wF_wF]
    simp only [Classical.not_not]
    rfl
  refine ⟨_, hkn, mfm.wF (by decide) (by decide) (by decide), ?_⟩
  intro w hw
  rw [xA_wFe]
  unfold k13
  rw [kqe]
  match w, hw with
  | 0, _ => simp [va_up]
  | 1, _ => simp [va_up]
  | 2, _ => simp [va_up]
  | 3, _ => simp [va_up]
  | 4, _ => simp [va_up]
  | 5, _ => simp [va_up]
  | 6, _ => simp [va_up]
  | 7, _ => simp [va_up]
  | 8, _ => simp [va_up]
  | 9, _ => simp [va_up]
  | 10, _ => simp [va_up]
  | 11, _ => simp [va_up]
  | 12, _ => simp [va_up]
end MKn
