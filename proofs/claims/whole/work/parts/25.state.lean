/-! ABSTRACT STATE: a reading: words, syllables, stressed, bonds, new, contrast, tune, marks -/
abbrev Rd : Type := Nat × (Nat → Nat) × (Nat → Nat) × (Nat → Nat) × (Nat → Int32) × (Nat → Int32) × Nat × (Nat → Nat → Int32)
def dW (d : Rd) : Nat := d.1
def dS (d : Rd) : Nat → Nat := d.2.1
def dT (d : Rd) : Nat → Nat := d.2.2.1
def dB (d : Rd) : Nat → Nat := d.2.2.2.1
def dN (d : Rd) : Nat → Int32 := d.2.2.2.2.1
def dC (d : Rd) : Nat → Int32 := d.2.2.2.2.2.1
def dU (d : Rd) : Nat := d.2.2.2.2.2.2.1
def dM (d : Rd) : Nat → Nat → Int32 := d.2.2.2.2.2.2.2
/-- all syllables -/
def dZ (d : Rd) : Nat := ps (dS d) (dW d)
def WRd (d : Rd) : Prop := dW d ≤ 16 ∧ (∀ k, k < dW d → 1 ≤ dS d k ∧ dS d k ≤ 5 ∧ dT d k < dS d k ∧ dB d k ≤ 99 ∧ (dN d k = 0 ∨ dN d k = 1) ∧ (dC d k = 0 ∨ dC d k = 1)) ∧ dU d ≤ 3 ∧ (∀ q i, q < 3 → i < 80 → dM d q i = -1 ∨ ∃ n : Nat, n ≤ 99 ∧ dM d q i = nI n) ∧ ∀ q i, q < 3 → i < 80 → dZ d ≤ i → dM d q i = -1
theorem WRd.z {d : Rd} (h : WRd d) : dZ d ≤ 80 := by
  have h1 := ps_bd (f := dS d) (w := dW d) (m := 5) (fun k hk => (h.2.1 k hk).2.1) (dW d) (Nat.le_refl _)
  have h2 := h.1
  unfold dZ; omega
def CWd (X : XW) (q k : Nat) (d : Rd) : Prop := xA X (q + 1) k = nI (dS d k) ∧ xA X (q + 2) k = nI (dT d k) ∧ xA X (q + 3) k = nI (dB d k) ∧ xA X (q + 4) k = dN d k ∧ xA X (q + 5) k = dC d k
/-- the class's reading at q holds d -/
def CRd (X : XW) (q : Nat) (d : Rd) : Prop := xI X q 6 = nI (dW d) ∧ xI X q 7 = nI (dZ d) ∧ xI X q 8 = nI (dU d) ∧ (∀ k, k < dW d → CWd X q k d) ∧ (∀ k, dW d ≤ k → k < 16 → xA X (q + 1) k = 0) ∧ ∀ w i, w < 3 → i < 80 → xA X (q + 7 + w) i = dM d w i
def MWd (X : XW) (o r k : Nat) (d : Rd) : Prop := xA X (mA o 31) (16 * r + k) = nI (dS d k) ∧ xA X (mA o 32) (16 * r + k) = nI (dT d k) ∧ xA X (mA o 33) (16 * r + k) = nI (dB d k) ∧ xA X (mA o 34) (16 * r + k) = dN d k ∧ xA X (mA o 35) (16 * r + k) = dC d k
/-- the reference's reading r is d -/
def MRd (X : XW) (o r : Nat) (d : Rd) : Prop := xA X (mA o 30) r = nI (dW d) ∧ xA X (mA o 36) r = nI (dU d) ∧ (∀ k, k < dW d → MWd X o r k d) ∧ ∀ w i, w < 3 → i < 80 → xA X (mA o 37) (3 * (80 * r + i) + w) = dM d w i
/-- the reference's frame: fields of K may have changed -/
def mfm (o : Nat) (K : List Nat) (X X1 : XW) : Prop := xst4 X1 = xst4 X ∧ (∀ a, (a < o ∨ o + 41 < a) → xI X1 a = xI X a ∧ xA X1 a = xA X a ∧ xL X1 a = xL X a) ∧ (∀ k, k ∉ K → xI X1 o k = xI X o k) ∧ (∀ k, k < 57 → tMt.getD k 0 ≠ 0 → k ∉ K → xA X1 (mA o k) = xA X (mA o k) ∧ xL X1 (mA o k) = xL X (mA o k))
theorem cM_le : ∀ k, k < 57 → tMt.getD k 0 ≠ 0 → cMt.getD k 0 ≤ 41 := by decide +kernel
section Mfm
variable {o : Nat} {K K1 : List Nat} {X X1 X2 : XW}
theorem mfm.rf : mfm o K X X := ⟨rfl, fun _ _ => ⟨rfl, rfl, rfl⟩, fun _ _ => rfl, fun _ _ _ _ => ⟨rfl, rfl⟩⟩
theorem mfm.tr (h : mfm o K X X1) (h2 : mfm o K X1 X2) : mfm o K X X2 := ⟨h2.1.trans h.1, fun a ha => ⟨(h2.2.1 a ha).1.trans (h.2.1 a ha).1, (h2.2.1 a ha).2.1.trans (h.2.1 a ha).2.1, (h2.2.1 a ha).2.2.trans (h.2.1 a ha).2.2⟩, fun k hk => (h2.2.2.1 k hk).trans (h.2.2.1 k hk), fun k hk h0 hK => ⟨(h2.2.2.2 k hk h0 hK).1.trans (h.2.2.2 k hk h0 hK).1, (h2.2.2.2 k hk h0 hK).2.trans (h.2.2.2 k hk h0 hK).2⟩⟩
theorem mfm.wk (h : mfm o K X X1) (hK : ∀ k, k ∈ K → k ∈ K1) : mfm o K1 X X1 := ⟨h.1, h.2.1, fun k hk => h.2.2.1 k (fun q => hk (hK k q)), fun k hk h0 q => h.2.2.2 k hk h0 (fun p => q (hK k p))⟩
theorem mfm.wF {k : Nat} {f : Nat → Int32} (hk : k ∈ K) (h57 : k < 57) (h0 : tMt.getD k 0 ≠ 0) : mfm o K X (wF X (mA o k) f) := by
  refine ⟨rfl, fun a ha => ⟨rfl, ?_, rfl⟩, fun _ _ => rfl, fun j hj h1 h2 => ⟨?_, rfl⟩⟩
  · have := cM_le k h57 h0
    rw [xA_wF', if_neg (fun e => by unfold mA at e; omega)]
  · rw [xA_wF', if_neg (fun e => h2 (by rw [(mA_inj hj h57).mp e]; exact hk))]
theorem mfm.wI {k : Nat} {v : Int32} (hk : k ∈ K) : mfm o K X (wI X o k v) := by
  refine ⟨rfl, fun a ha => ⟨?_, rfl, rfl⟩, fun j hj => ?_, fun j hj h1 h2 => ⟨rfl, rfl⟩⟩
  · funext j
    rw [xI_wI, if_neg (fun e => by omega)]
  · rw [xI_wI, if_neg (fun e => hj (by rw [e.2]; exact hk))]
theorem LM.mf (L : LM X o) (h : mfm o K X X1) : LM X1 o := L.mv (tr1 h.1)
theorem mfm.I (h : mfm o K X X1) {k : Nat} (hk : k ∉ K) : xI X1 o k = xI X o k := h.2.2.1 k hk
theorem mfm.A (h : mfm o K X X1) {k : Nat} (hk : k ∉ K) (h57 : k < 57) (h0 : tMt.getD k 0 ≠ 0) : xA X1 (mA o k) = xA X (mA o k) := (h.2.2.2 k h57 h0 hk).1
theorem MRd.mf {r : Nat} {d : Rd} (R : MRd X o r d) (h : mfm o K X X1) (hK : ∀ k, k ∈ K → k ∉ [30, 31, 32, 33, 34, 35, 36, 37]) : MRd X1 o r d := by
  have e : ∀ k, k ∈ [30, 31, 32, 33, 34, 35, 36, 37] → k < 57 → tMt.getD k 0 ≠ 0 → xA X1 (mA o k) = xA X (mA o k) := fun k hk h1 h2 => h.A (fun q => hK k q hk) h1 h2
  unfold MRd MWd
  rw [e 30 (by decide) (by decide) (by decide), e 31 (by decide) (by decide) (by decide), e 32 (by decide) (by decide) (by decide), e 33 (by decide) (by decide) (by decide), e 34 (by decide) (by decide) (by decide), e 35 (by decide) (by decide) (by decide), e 36 (by decide) (by decide) (by decide), e 37 (by decide) (by decide) (by decide)]
  exact R
end Mfm
theorem CRd.mf {X X1 : XW} {q : Nat} {d : Rd} {S : Nat → Prop} (R : CRd X q d) (h : xfm S X X1) (hS : ∀ a, q ≤ a → a < q + 10 → ¬ S a) : CRd X1 q d := by
  unfold CRd CWd
  rw [(h.2 q (hS q (by omega) (by omega))).1, (h.2 (q + 1) (hS _ (by omega) (by omega))).2.1, (h.2 (q + 2) (hS _ (by omega) (by omega))).2.1, (h.2 (q + 3) (hS _ (by omega) (by omega))).2.1, (h.2 (q + 4) (hS _ (by omega) (by omega))).2.1, (h.2 (q + 5) (hS _ (by omega) (by omega))).2.1]
  refine ⟨R.1, R.2.1, R.2.2.1, R.2.2.2.1, R.2.2.2.2.1, fun w i hw hi => ?_⟩
  rw [(h.2 (q + 7 + w) (hS _ (by omega) (by omega))).2.1]
  exact R.2.2.2.2.2 w i hw hi
/-! soundsOf -/
section SmallM
variable {X : XW} {o : Nat}
theorem m_soundsOf (L : LM X o) {r : Nat} {d : Rd} (hr : r < 4) (R : MRd X o r d) (W : WRd d) : fX10_soundsOf o (nI r) X = some (nI (dZ d), X) := by
  obtain ⟨R1, R2, R3, R4⟩ := R
  have W1 := W.1
  have hl := iter3 (b := fun rec => fX10_soundsOf_l7_b rec o (nI r)) (z := fun _ _ _ => none) (s1 := fun k => nI (ps (dS d) k)) (s2 := fun k => nI (16 * r + k)) (sX := fun _ => X) (N := dW d) (res := (nI (dZ d), X))
    (fun k hk rec => by
      have h1 := (R3 k hk).1
      unfold fX10_soundsOf_l7_b
      simp (disch := first | omega | assumption | (simp only [LM_wI, LM_wF]; assumption)) only [gK_M, gI_M, pI_M, rM1, aM1, uM1, rM4, aM4, uM4, rM5, aM5, uM5, rM6, aM6, rM9, aM9, rM11, aM11, uM11, rM12, aM12, uM12, rM13, aM13, uM13, rM14, aM14, uM14, rM15, aM15, uM15, rM16, aM16, uM16, rM17, aM17, uM17, rM18, aM18, uM18, rM19, aM19, uM19, rM20, aM20, uM20, rM23, aM23, uM23, rM24, aM24, uM24, rM25, aM25, uM25, rM26, aM26, uM26, rM27, aM27, uM27, rM30, aM30, uM30, rM31, aM31, uM31, rM32, aM32, uM32, rM33, aM33, uM33, rM34, aM34, uM34, rM35, aM35, uM35, rM36, aM36, uM36, rM37, aM37, uM37, rM41, aM41, uM41, rM43, aM43, uM43, rM44, aM44, uM44, rM45, aM45, uM45, rM46, aM46, uM46, rM48, aM48, uM48, rM49, aM49, uM49, rM50, aM50, uM50, rM51, aM51, uM51, rM52, aM52, uM52, rM53, aM53, uM53, rM54, aM54, uM54, rM56, aM56, uM56, uL_M6, sb, nI_add, nI_mul, nI_1, nI_subI, nI_p1, nI_m1, Lt0, Lt2, Lt3, Lt4, Lt5, Lt8, Lt9, Lt10, Lt16, Lt24, Lt50, Lt80, Lt240, Lt1060, nI_leI, nI_ltI, nI_eq, leT, leF, ltT, ltF, nI_n0, if_true, if_false, not_true_eq_false, not_false_eq_true, xKd_wI, xLn_wI, xR_wI, xA_wI, xL_wI, xQ_wI, xKd_wF, xLn_wF, xR_wF, xI_wF, xL_wF, xQ_wF, R1, h1]
      rfl)
    (fun rec => by
      unfold fX10_soundsOf_l7_b
      simp (disch := first | omega | assumption | (simp only [LM_wI, LM_wF]; assumption)) only [gK_M, gI_M, pI_M, rM1, aM1, uM1, rM4, aM4, uM4, rM5, aM5, uM5, rM6, aM6, rM9, aM9, rM11, aM11, uM11, rM12, aM12, uM12, rM13, aM13, uM13, rM14, aM14, uM14, rM15, aM15, uM15, rM16, aM16, uM16, rM17, aM17, uM17, rM18, aM18, uM18, rM19, aM19, uM19, rM20, aM20, uM20, rM23, aM23, uM23, rM24, aM24, uM24, rM25, aM25, uM25, rM26, aM26, uM26, rM27, aM27, uM27, rM30, aM30, uM30, rM31, aM31, uM31, rM32, aM32, uM32, rM33, aM33, uM33, rM34, aM34, uM34, rM35, aM35, uM35, rM36, aM36, uM36, rM37, aM37, uM37, rM41, aM41, uM41, rM43, aM43, uM43, rM44, aM44, uM44, rM45, aM45, uM45, rM46, aM46, uM46, rM48, aM48, uM48, rM49, aM49, uM49, rM50, aM50, uM50, rM51, aM51, uM51, rM52, aM52, uM52, rM53, aM53, uM53, rM54, aM54, uM54, rM56, aM56, uM56, uL_M6, sb, nI_add, nI_mul, nI_1, nI_subI, nI_p1, nI_m1, Lt0, Lt2, Lt3, Lt4, Lt5, Lt8, Lt9, Lt10, Lt16, Lt24, Lt50, Lt80, Lt240, Lt1060, nI_leI, nI_ltI, nI_eq, leT, leF, ltT, ltF, nI_n0, if_true, if_false, not_true_eq_false, not_false_eq_true, xKd_wI, xLn_wI, xR_wI, xA_wI, xL_wI, xQ_wI, xKd_wF, xLn_wF, xR_wF, xI_wF, xL_wF, xQ_wF, R1]
      rfl) (n := FU) (FUlt (by omega))
  unfold fX10_soundsOf
  simp (disch := first | omega | assumption | (simp only [LM_wI, LM_wF]; assumption)) only [gK_M, gI_M, pI_M, rM1, aM1, uM1, rM4, aM4, uM4, rM5, aM5, uM5, rM6, aM6, rM9, aM9, rM11, aM11, uM11, rM12, aM12, uM12, rM13, aM13, uM13, rM14, aM14, uM14, rM15, aM15, uM15, rM16, aM16, uM16, rM17, aM17, uM17, rM18, aM18, uM18, rM19, aM19, uM19, rM20, aM20, uM20, rM23, aM23, uM23, rM24, aM24, uM24, rM25, aM25, uM25, rM26, aM26, uM26, rM27, aM27, uM27, rM30, aM30, uM30, rM31, aM31, uM31, rM32, aM32, uM32, rM33, aM33, uM33, rM34, aM34, uM34, rM35, aM35, uM35, rM36, aM36, uM36, rM37, aM37, uM37, rM41, aM41, uM41, rM43, aM43, uM43, rM44, aM44, uM44, rM45, aM45, uM45, rM46, aM46, uM46, rM48, aM48, uM48, rM49, aM49, uM49, rM50, aM50, uM50, rM51, aM51, uM51, rM52, aM52, uM52, rM53, aM53, uM53, rM54, aM54, uM54, rM56, aM56, uM56, uL_M6, sb, nI_add, nI_mul, nI_1, nI_subI, nI_p1, nI_m1, Lt0, Lt2, Lt3, Lt4, Lt5, Lt8, Lt9, Lt10, Lt16, Lt24, Lt50, Lt80, Lt240, Lt1060, nI_leI, nI_ltI, nI_eq, leT, leF, ltT, ltF, nI_n0, if_true, if_false, not_true_eq_false, not_false_eq_true, xKd_wI, xLn_wI, xR_wI, xA_wI, xL_wI, xQ_wI, xKd_wF, xLn_wF, xR_wF, xI_wF, xL_wF, xQ_wF]
  rw [show fX10_soundsOf_l7 o (nI r) FU (nI 0) (nI (16 * r)) X = some (nI (dZ d), X) from hl, sb]
end SmallM
