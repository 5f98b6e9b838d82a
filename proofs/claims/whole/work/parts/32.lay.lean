/-! LAYING OUT: what each syllable knows of itself; the class's rows -/
theorem nI_z {a : Nat} (h : a < 2 ^ 31) : (nI a = 0) = (a = 0) := propext (nI_eq (b := 0) h (by decide))
theorem nI_le0 {a : Nat} (h : a < 2 ^ 31) : (nI a ≤ 0) = (a = 0) := propext ((nI_leI (b := 0) h (by decide)).trans Nat.le_zero)
theorem nI_lt0 {a : Nat} (h : a < 2 ^ 31) : (0 < nI a) = (0 < a) := propext (nI_ltI (a := 0) (by decide) h)
def b01 (c : Prop) [Decidable c] : Int32 := if c then 1 else 0
theorem b01_01 (c : Prop) [Decidable c] : b01 c = 0 ∨ b01 c = 1 := by
  unfold b01
  split
  · exact Or.inr rfl
  · exact Or.inl rfl
def kv (d : Rd) (id : Nat) (w p k t : Nat) : Int32 := match w with
  | 3 => nI (ps (dS d) k + t - ps (dS d) (fs d id p))
  | 4 => nI (pS d id p - 1 - (ps (dS d) k + t - ps (dS d) (fs d id p)))
  | 5 => b01 (t = dT d k)
  | 6 => b01 (t = dT d k ∧ ¬ aF d (fs d id p) (fs d id (p + 1)) k = 0)
  | 7 => b01 (¬ dN d k = 0)
  | 8 => b01 (¬ dC d k = 0)
  | 9 => nI p
  | 10 => b01 (p = pN d id - 1)
  | 11 => nI k
  | _ => nI (dU d)
theorem ps_lt {f : Nat → Nat} {k k' t t' : Nat} (ht : t < f k) (e : ps f k + t = ps f k' + t') (h : k < k') : False := by
  have h1 : ps f (k + 1) ≤ ps f k' := ps_mono (by omega)
  have h2 : ps f (k + 1) = ps f k + f k := rfl
  omega
theorem ps_inj {f : Nat → Nat} {k k' t t' : Nat} (ht : t < f k) (ht' : t' < f k') (e : ps f k + t = ps f k' + t') : k = k' ∧ t = t' := by
  by_cases h : k < k'
  · exact (ps_lt ht e h).elim
  · by_cases h2 : k' < k
    · exact (ps_lt ht' e.symm h2).elim
    · obtain rfl : k = k' := by omega
      exact ⟨rfl, by omega⟩
/-- a place: phrase p, word k, syllable t of it -/
def plc (d : Rd) (id p k t : Nat) : Prop := p < pN d id ∧ fs d id p ≤ k ∧ k < fs d id (p + 1) ∧ t < dS d k
theorem plc_inj {d : Rd} {id p k t p' k' t' : Nat} (h : plc d id p k t) (h' : plc d id p' k' t') (e : ps (dS d) k + t = ps (dS d) k' + t') : p = p' ∧ k = k' ∧ t = t' := by
  obtain ⟨rfl, rfl⟩ := ps_inj h.2.2.2 h'.2.2.2 e
  exact ⟨fs_dj d id h.2.1 h.2.2.1 h'.2.1 h'.2.2.1, rfl, rfl⟩
theorem plc_w {d : Rd} {id p k t : Nat} (h : plc d id p k t) : k < dW d := Nat.lt_of_lt_of_le h.2.2.1 (fs_le d id _)
theorem plc_z {d : Rd} {id p k t : Nat} (h : plc d id p k t) : ps (dS d) k + t < dZ d := by
  have h1 : ps (dS d) (k + 1) ≤ ps (dS d) (dW d) := ps_mono (plc_w h)
  have h2 : ps (dS d) (k + 1) = ps (dS d) k + dS d k := rfl
  have h3 := h.2.2.2
  unfold dZ
  omega
theorem ps_find {f : Nat → Nat} : ∀ {w i : Nat}, i < ps f w → ∃ k t, k < w ∧ t < f k ∧ i = ps f k + t
  | 0, i, h => absurd h (Nat.not_lt_zero _)
  | w + 1, i, h => by
    by_cases h2 : i < ps f w
    · obtain ⟨k, t, h3, h4, h5⟩ := ps_find h2
      exact ⟨k, t, by omega, h4, h5⟩
    · have h3 : ps f (w + 1) = ps f w + f w := rfl
      exact ⟨w, i - ps f w, by omega, by omega, by omega⟩
theorem fs_find (d : Rd) (id : Nat) : ∀ {n k : Nat}, k < fs d id n → ∃ p, p < n ∧ fs d id p ≤ k ∧ k < fs d id (p + 1)
  | 0, k, h => absurd h (Nat.not_lt_zero _)
  | n + 1, k, h => by
    by_cases h2 : k < fs d id n
    · obtain ⟨p, h3, h4⟩ := fs_find d id h2
      exact ⟨p, by omega, h4⟩
    · exact ⟨n, by omega, by omega, h⟩
theorem plc_ex {d : Rd} (id : Nat) {i : Nat} (h : i < dZ d) : ∃ p k t, plc d id p k t ∧ i = ps (dS d) k + t := by
  obtain ⟨k, t, h1, h2, h3⟩ := ps_find h
  obtain ⟨p, h4, h5, h6⟩ := fs_find d id (n := pN d id) (k := k) (by rw [pN_e]; exact h1)
  exact ⟨p, k, t, ⟨h4, h5, h6, h2⟩, h3⟩
/-- within a phrase: the places -/
theorem plc_b {d : Rd} {id p k t : Nat} (h : plc d id p k t) : ps (dS d) (fs d id p) ≤ ps (dS d) k ∧ ps (dS d) k + t < ps (dS d) (fs d id (p + 1)) := by
  refine ⟨ps_mono h.2.1, ?_⟩
  have h1 : ps (dS d) (k + 1) ≤ ps (dS d) (fs d id (p + 1)) := ps_mono h.2.2.1
  have h2 : ps (dS d) (k + 1) = ps (dS d) k + dS d k := rfl
  have h3 := h.2.2.2
  omega
def rowsTo (X : XW) (s : Nat) (d : Rd) (id n : Nat) : Prop := ∀ p k t, plc d id p k t → ps (dS d) k + t < n → ∀ w, 3 ≤ w → w < 12 → xA X (s + 10 + w) (ps (dS d) k + t) = kv d id w p k t
theorem rowsTo.step {X X1 : XW} {s : Nat} {d : Rd} {id p k t : Nat} (h : rowsTo X s d id (ps (dS d) k + t)) (hp : plc d id p k t) (h1 : ∀ w, 3 ≤ w → w < 12 → xA X1 (s + 10 + w) = va_up (xA X (s + 10 + w)) (ps (dS d) k + t) (kv d id w p k t)) : rowsTo X1 s d id (ps (dS d) k + t + 1) := by
  intro p' k' t' hp' hlt w hw hw2
  rw [h1 w hw hw2]
  by_cases e : ps (dS d) k' + t' = ps (dS d) k + t
  · obtain ⟨rfl, rfl, rfl⟩ := plc_inj hp' hp e
    rw [upE]
  · rw [upN e]
    exact h p' k' t' hp' (by omega) w hw hw2
section LayI
variable {rec : Int32 → XW → Option (XW)} {l0 l1 : Nat} {l2 l3 l4 l5 s1 : Int32} {s2 : Nat} {X : XW}
theorem li229 {c : Prop} [Decidable c] : (if c then fX6_layWord_j229 rec l0 l1 l2 l3 l4 l5 1 s1 s2 X else fX6_layWord_j229 rec l0 l1 l2 l3 l4 l5 0 s1 s2 X) = fX6_layWord_j229 rec l0 l1 l2 l3 l4 l5 (b01 c) s1 s2 X := by unfold b01; split <;> rfl
theorem li186 {c : Prop} [Decidable c] : (if c then fX6_layWord_j186 rec l0 l1 l2 l3 l4 l5 0 s1 s2 X else fX6_layWord_j186 rec l0 l1 l2 l3 l4 l5 1 s1 s2 X) = fX6_layWord_j186 rec l0 l1 l2 l3 l4 l5 (b01 (¬ c)) s1 s2 X := by unfold b01; by_cases h : c <;> simp [h]
theorem li160 {c : Prop} [Decidable c] : (if c then fX6_layWord_j160 rec l0 l1 l2 l3 l4 l5 0 s1 s2 X else fX6_layWord_j160 rec l0 l1 l2 l3 l4 l5 1 s1 s2 X) = fX6_layWord_j160 rec l0 l1 l2 l3 l4 l5 (b01 (¬ c)) s1 s2 X := by unfold b01; by_cases h : c <;> simp [h]
theorem li134 {c : Prop} [Decidable c] : (if c then fX6_layWord_j133 rec l0 l1 l2 l3 l4 l5 s1 s2 X else fX6_layWord_j134 rec l0 l1 l2 l3 l4 l5 1 s1 s2 X) = fX6_layWord_j134 rec l0 l1 l2 l3 l4 l5 (b01 (¬ c)) s1 s2 X := by unfold b01; by_cases h : c <;> simp [h, fX6_layWord_j133]
theorem li100 {l6 : Int32} {c : Prop} [Decidable c] : (if c then fX6_layWord_j100 rec l0 l1 l2 l3 l4 l5 l6 0 s1 s2 X else fX6_layWord_j100 rec l0 l1 l2 l3 l4 l5 l6 1 s1 s2 X) = fX6_layWord_j100 rec l0 l1 l2 l3 l4 l5 l6 (b01 (¬ c)) s1 s2 X := by unfold b01; by_cases h : c <;> simp [h]
theorem li30 {c : Prop} [Decidable c] : (if c then fX6_layWord_j30 rec l0 l1 l2 l3 l4 l5 1 X else fX6_layWord_j30 rec l0 l1 l2 l3 l4 l5 0 X) = fX6_layWord_j30 rec l0 l1 l2 l3 l4 l5 (b01 c) X := by unfold b01; split <;> rfl
end LayI
theorem b01_0 {c : Prop} [Decidable c] : (b01 c = 0) = ¬ c := by unfold b01; by_cases h : c <;> simp [h]
theorem b01_n {c : Prop} [Decidable c] (h : ¬ c) : b01 c = 0 := if_neg h
theorem b01_y {c : Prop} [Decidable c] (h : c) : b01 c = 1 := if_pos h
theorem b01_c {c e : Prop} [Decidable c] [Decidable e] (h : c ↔ e) : b01 c = b01 e := by
  by_cases hc : c
  · rw [b01_y hc, b01_y (h.mp hc)]
  · rw [b01_n hc, b01_n (fun q => hc (h.mpr q))]
/-- rows 3 .. 11 written at i -/
def w9 (X : XW) (s i : Nat) (f : Nat → Int32) : Nat → XW
  | 0 => X
  | n + 1 => wF (w9 X s i f n) (s + 10 + (3 + n)) (va_up (xA X (s + 10 + (3 + n))) i (f (3 + n)))
theorem w9_st (X : XW) (s i : Nat) (f : Nat → Int32) : ∀ n, xst4 (w9 X s i f n) = xst4 X
  | 0 => rfl
  | n + 1 => w9_st X s i f n
theorem w9_I (X : XW) (s i : Nat) (f : Nat → Int32) : ∀ n, xI (w9 X s i f n) = xI X
  | 0 => rfl
  | n + 1 => w9_I X s i f n
theorem w9_L (X : XW) (s i : Nat) (f : Nat → Int32) : ∀ n, xL (w9 X s i f n) = xL X
  | 0 => rfl
  | n + 1 => w9_L X s i f n
theorem w9_A (X : XW) (s i : Nat) (f : Nat → Int32) (a : Nat) : ∀ n, xA (w9 X s i f n) a = if s + 13 ≤ a ∧ a < s + 13 + n then va_up (xA X a) i (f (a - s - 10)) else xA X a
  | 0 => by rw [if_neg (by omega)]; rfl
  | n + 1 => by
    show xA (wF (w9 X s i f n) (s + 10 + (3 + n)) (va_up (xA X (s + 10 + (3 + n))) i (f (3 + n)))) a = _
    rw [xA_wF', w9_A X s i f a n]
    by_cases h : a = s + 10 + (3 + n)
    · subst h
      rw [if_pos rfl, if_pos (by omega), show s + 10 + (3 + n) - s - 10 = 3 + n by omega]
    · rw [if_neg h]
      by_cases h2 : s + 13 ≤ a ∧ a < s + 13 + n
      · rw [if_pos h2, if_pos (by omega)]
      · rw [if_neg h2, if_neg (by omega)]
theorem w9_f (X : XW) (s i : Nat) (f : Nat → Int32) : xfm (fun a => s + 13 ≤ a ∧ a < s + 22) X (w9 X s i f 9) := ⟨w9_st X s i f 9, fun a ha => ⟨by rw [w9_I], by rw [w9_A, if_neg (by omega)], by rw [w9_L]⟩⟩
theorem w9_r (X : XW) (s i : Nat) (f : Nat → Int32) {w : Nat} (h : 3 ≤ w) (h2 : w < 12) : xA (w9 X s i f 9) (s + 10 + w) = va_up (xA X (s + 10 + w)) i (f w) := by
  rw [w9_A, if_pos (by omega), show s + 10 + w - s - 10 = w by omega]
section CLay
variable {X : XW} {s q id : Nat} {d : Rd}
theorem CPh.mf {X1 : XW} {S : Nat → Prop} (P : CPh X s d id) (h : xfm S X X1) (hS : ∀ a, s + 1 ≤ a → a ≤ s + 8 → ¬ S a) : CPh X1 s d id := by
  unfold CPh
  rw [(h.2 (s + 1) (hS _ (by omega) (by omega))).1, (h.2 (s + 2) (hS _ (by omega) (by omega))).2.1, (h.2 (s + 3) (hS _ (by omega) (by omega))).2.1, (h.2 (s + 4) (hS _ (by omega) (by omega))).2.1, (h.2 (s + 5) (hS _ (by omega) (by omega))).2.1, (h.2 (s + 6) (hS _ (by omega) (by omega))).2.1, (h.2 (s + 7) (hS _ (by omega) (by omega))).2.1]
  exact P
theorem f_lw1 (L : LSh X s) (Q : LRd X q) (hq : q + 9 < s ∨ s + 23 < q) (R : CRd X q d) (W : WRd d) (P : CPh X s d id) {p k t : Nat} (hp : plc d id p k t) (hz : xI X s 3 = nI (ps (dS d) k + t)) (rec : Int32 → XW → Option XW) :
    fX6_layWord_l3_b rec s q (nI k) (nI p) (nI (ps (dS d) (fs d id p))) (nI t) X = rec (nI (t + 1)) (wI (w9 X s (ps (dS d) k + t) (fun w => kv d id w p k t) 9) s 3 (nI (ps (dS d) k + t + 1))) := by
  have W1 := W.1
  have kw := plc_w hp
  have hpz := plc_z hp
  have W80 := W.z
  obtain ⟨b1, b2⟩ := plc_b hp
  have hpn := pN_le d id
  obtain ⟨hp1, hp2, hp3, hp4⟩ := hp
  obtain ⟨W2, W3, W4, -⟩ := W.2.1 k kw
  obtain ⟨c1, c2, c3, c4, c5⟩ := R.2.2.2.1 k kw
  obtain ⟨-, -, e4, -, e6⟩ := P.2.2 p hp1
  have e6 := e6 k hp2 hp3
  have e7 := P.1
  have e4b : pS d id p = ps (dS d) (fs d id (p + 1)) - ps (dS d) (fs d id p) := rfl
  unfold fX6_layWord_l3_b
  simp only [li30]
  rw [dR0 Q, sb, dA0 Q (by omega), sb, c1, if_neg (nI_ge hp4 (by omega)), dR1 Q, sb, dA1 Q (by omega), sb, c2]
  unfold fX6_layWord_j30
  simp only [li100]
  simp (disch := first | omega | assumption | (simp only [LSh_wI, LSh_wF, LRd_wI, LRd_wF, LRu_wI, LRu_wF]; assumption)) only [sK, sI, sP, sZ, sR0, sR1, tK, tI, tP, tR0, tA0, tU0, tR1, tA1, tU1, tR2, tA2, tU2, tR3, tA3, tU3, tR4, tA4, tU4, tR5, tA5, tU5, tR6, tA6, tU6, rwQ, rwQ1, rwA, rwU, dK, dI, dP, dR0, dA0, dR1, dA1, dR2, dA2, dR3, dA3, dR4, dA4, dR5, dQ, dQ1, dMA, uK, uI_, uP_, uR0, uA0, uU0, uR1, uA1, uU1, uR2, uA2, uU2, uR3, uA3, uU3, uR4, uA4, uU4, uR5, uAc, uEc, sb, nI_add, nI_mul, nI_1, nI_subI, nI_p1, nI_m1, nI_z, nI_le0, nI_lt0, Int32.add_zero, Lt2, Lt3, Lt4, Lt5, Lt8, Lt9, Lt10, Lt16, Lt24, Lt50, Lt80, Lt240, Lt1060, Lt6, Lt7, Lt11, Lt12, Lt13, Lt99, Lt100, Lt1000, nI_leI, nI_ltI, nI_eq, leT, leF, ltT, ltF, nI_n0, if_true, if_false, not_true_eq_false, not_false_eq_true, xKd_wI, xLn_wI, xR_wI, xA_wI, xL_wI, xQ_wI, xKd_wF, xLn_wF, xR_wF, xI_wF, xL_wF, xQ_wF, hz, e4, xA_wFn]
  unfold fX6_layWord_j100
  simp (disch := first | omega | assumption | (simp only [LSh_wI, LSh_wF, LRd_wI, LRd_wF, LRu_wI, LRu_wF]; assumption)) only [sK, sI, sP, sZ, sR0, sR1, tK, tI, tP, tR0, tA0, tU0, tR1, tA1, tU1, tR2, tA2, tU2, tR3, tA3, tU3, tR4, tA4, tU4, tR5, tA5, tU5, tR6, tA6, tU6, rwQ, rwQ1, rwA, rwU, dK, dI, dP, dR0, dA0, dR1, dA1, dR2, dA2, dR3, dA3, dR4, dA4, dR5, dQ, dQ1, dMA, uK, uI_, uP_, uR0, uA0, uU0, uR1, uA1, uU1, uR2, uA2, uU2, uR3, uA3, uU3, uR4, uA4, uU4, uR5, uAc, uEc, sb, nI_add, nI_mul, nI_1, nI_subI, nI_p1, nI_m1, nI_z, nI_le0, nI_lt0, Int32.add_zero, Lt2, Lt3, Lt4, Lt5, Lt8, Lt9, Lt10, Lt16, Lt24, Lt50, Lt80, Lt240, Lt1060, Lt6, Lt7, Lt11, Lt12, Lt13, Lt99, Lt100, Lt1000, nI_leI, nI_ltI, nI_eq, leT, leF, ltT, ltF, nI_n0, if_true, if_false, not_true_eq_false, not_false_eq_true, xKd_wI, xLn_wI, xR_wI, xA_wI, xL_wI, xQ_wI, xKd_wF, xLn_wF, xR_wF, xI_wF, xL_wF, xQ_wF, hz, e6, xA_wFn, b01_0]
  have hj : ∀ Y v, (if ¬ t = dT d k then fX6_layWord_j133 rec s q (nI k) (nI p) (nI (ps (dS d) (fs d id p))) (nI t) v (s + 10 + 6) Y else if aF d (fs d id p) (fs d id (p + 1)) k = 0 then fX6_layWord_j133 rec s q (nI k) (nI p) (nI (ps (dS d) (fs d id p))) (nI t) v (s + 10 + 6) Y else fX6_layWord_j134 rec s q (nI k) (nI p) (nI (ps (dS d) (fs d id p))) (nI t) 1 v (s + 10 + 6) Y) = fX6_layWord_j134 rec s q (nI k) (nI p) (nI (ps (dS d) (fs d id p))) (nI t) (b01 (t = dT d k ∧ ¬ aF d (fs d id p) (fs d id (p + 1)) k = 0)) v (s + 10 + 6) Y := by
    intro Y v
    unfold fX6_layWord_j133
    by_cases h1 : t = dT d k
    · rw [if_neg (fun q => q h1)]
      by_cases h2 : aF d (fs d id p) (fs d id (p + 1)) k = 0
      · rw [if_pos h2, b01_n (fun q => q.2 h2)]
      · rw [if_neg h2, b01_y ⟨h1, h2⟩]
    · rw [if_pos h1, b01_n (fun q => h1 q.1)]
  simp only [hj]
  unfold fX6_layWord_j134
  simp only [li160]
  simp (disch := first | omega | assumption | (simp only [LSh_wI, LSh_wF, LRd_wI, LRd_wF, LRu_wI, LRu_wF]; assumption)) only [sK, sI, sP, sZ, sR0, sR1, tK, tI, tP, tR0, tA0, tU0, tR1, tA1, tU1, tR2, tA2, tU2, tR3, tA3, tU3, tR4, tA4, tU4, tR5, tA5, tU5, tR6, tA6, tU6, rwQ, rwQ1, rwA, rwU, dK, dI, dP, dR0, dA0, dR1, dA1, dR2, dA2, dR3, dA3, dR4, dA4, dR5, dQ, dQ1, dMA, uK, uI_, uP_, uR0, uA0, uU0, uR1, uA1, uU1, uR2, uA2, uU2, uR3, uA3, uU3, uR4, uA4, uU4, uR5, uAc, uEc, sb, nI_add, nI_mul, nI_1, nI_subI, nI_p1, nI_m1, nI_z, nI_le0, nI_lt0, Int32.add_zero, Lt2, Lt3, Lt4, Lt5, Lt8, Lt9, Lt10, Lt16, Lt24, Lt50, Lt80, Lt240, Lt1060, Lt6, Lt7, Lt11, Lt12, Lt13, Lt99, Lt100, Lt1000, nI_leI, nI_ltI, nI_eq, leT, leF, ltT, ltF, nI_n0, if_true, if_false, not_true_eq_false, not_false_eq_true, xKd_wI, xLn_wI, xR_wI, xA_wI, xL_wI, xQ_wI, xKd_wF, xLn_wF, xR_wF, xI_wF, xL_wF, xQ_wF, hz, c4, xA_wFn]
  unfold fX6_layWord_j160
  simp only [li186]
  simp (disch := first | omega | assumption | (simp only [LSh_wI, LSh_wF, LRd_wI, LRd_wF, LRu_wI, LRu_wF]; assumption)) only [sK, sI, sP, sZ, sR0, sR1, tK, tI, tP, tR0, tA0, tU0, tR1, tA1, tU1, tR2, tA2, tU2, tR3, tA3, tU3, tR4, tA4, tU4, tR5, tA5, tU5, tR6, tA6, tU6, rwQ, rwQ1, rwA, rwU, dK, dI, dP, dR0, dA0, dR1, dA1, dR2, dA2, dR3, dA3, dR4, dA4, dR5, dQ, dQ1, dMA, uK, uI_, uP_, uR0, uA0, uU0, uR1, uA1, uU1, uR2, uA2, uU2, uR3, uA3, uU3, uR4, uA4, uU4, uR5, uAc, uEc, sb, nI_add, nI_mul, nI_1, nI_subI, nI_p1, nI_m1, nI_z, nI_le0, nI_lt0, Int32.add_zero, Lt2, Lt3, Lt4, Lt5, Lt8, Lt9, Lt10, Lt16, Lt24, Lt50, Lt80, Lt240, Lt1060, Lt6, Lt7, Lt11, Lt12, Lt13, Lt99, Lt100, Lt1000, nI_leI, nI_ltI, nI_eq, leT, leF, ltT, ltF, nI_n0, if_true, if_false, not_true_eq_false, not_false_eq_true, xKd_wI, xLn_wI, xR_wI, xA_wI, xL_wI, xQ_wI, xKd_wF, xLn_wF, xR_wF, xI_wF, xL_wF, xQ_wF, hz, c5, xA_wFn]
  unfold fX6_layWord_j186
  simp only [li229]
  simp (disch := first | omega | assumption | (simp only [LSh_wI, LSh_wF, LRd_wI, LRd_wF, LRu_wI, LRu_wF]; assumption)) only [sK, sI, sP, sZ, sR0, sR1, tK, tI, tP, tR0, tA0, tU0, tR1, tA1, tU1, tR2, tA2, tU2, tR3, tA3, tU3, tR4, tA4, tU4, tR5, tA5, tU5, tR6, tA6, tU6, rwQ, rwQ1, rwA, rwU, dK, dI, dP, dR0, dA0, dR1, dA1, dR2, dA2, dR3, dA3, dR4, dA4, dR5, dQ, dQ1, dMA, uK, uI_, uP_, uR0, uA0, uU0, uR1, uA1, uU1, uR2, uA2, uU2, uR3, uA3, uU3, uR4, uA4, uU4, uR5, uAc, uEc, sb, nI_add, nI_mul, nI_1, nI_subI, nI_p1, nI_m1, nI_z, nI_le0, nI_lt0, Int32.add_zero, Lt2, Lt3, Lt4, Lt5, Lt8, Lt9, Lt10, Lt16, Lt24, Lt50, Lt80, Lt240, Lt1060, Lt6, Lt7, Lt11, Lt12, Lt13, Lt99, Lt100, Lt1000, nI_leI, nI_ltI, nI_eq, leT, leF, ltT, ltF, nI_n0, if_true, if_false, not_true_eq_false, not_false_eq_true, xKd_wI, xLn_wI, xR_wI, xA_wI, xL_wI, xQ_wI, xKd_wF, xLn_wF, xR_wF, xI_wF, xL_wF, xQ_wF, hz, e7, xA_wFn]
  unfold fX6_layWord_j229
  simp (disch := first | omega | assumption | (simp only [LSh_wI, LSh_wF, LRd_wI, LRd_wF, LRu_wI, LRu_wF]; assumption)) only [sK, sI, sP, sZ, sR0, sR1, tK, tI, tP, tR0, tA0, tU0, tR1, tA1, tU1, tR2, tA2, tU2, tR3, tA3, tU3, tR4, tA4, tU4, tR5, tA5, tU5, tR6, tA6, tU6, rwQ, rwQ1, rwA, rwU, dK, dI, dP, dR0, dA0, dR1, dA1, dR2, dA2, dR3, dA3, dR4, dA4, dR5, dQ, dQ1, dMA, uK, uI_, uP_, uR0, uA0, uU0, uR1, uA1, uU1, uR2, uA2, uU2, uR3, uA3, uU3, uR4, uA4, uU4, uR5, uAc, uEc, sb, nI_add, nI_mul, nI_1, nI_subI, nI_p1, nI_m1, nI_z, nI_le0, nI_lt0, Int32.add_zero, Lt2, Lt3, Lt4, Lt5, Lt8, Lt9, Lt10, Lt16, Lt24, Lt50, Lt80, Lt240, Lt1060, Lt6, Lt7, Lt11, Lt12, Lt13, Lt99, Lt100, Lt1000, nI_leI, nI_ltI, nI_eq, leT, leF, ltT, ltF, nI_n0, if_true, if_false, not_true_eq_false, not_false_eq_true, xKd_wI, xLn_wI, xR_wI, xA_wI, xL_wI, xQ_wI, xKd_wF, xLn_wF, xR_wF, xI_wF, xL_wF, xQ_wF, hz, xA_wFn]
  simp only [Classical.not_not]
  rfl
end CLay
