/-! ACCENTS, and the class's phrases -/
def cn (d : Rd) (i : Nat) : Nat → Nat
  | 0 => 0
  | n + 1 => cn d i n + (if dC d (i + n) = 0 then 0 else 1)
/-- one more than the last new word among the first n from i on; 0: none -/
def ln (d : Rd) (i : Nat) : Nat → Nat
  | 0 => 0
  | n + 1 => if dN d (i + n) = 0 then ln d i n else i + n + 1
def aw (d : Rd) (i j : Nat) : Nat := if ln d i (j - i) = 0 then j - 1 else ln d i (j - i) - 1
def ac (d : Rd) (i j : Nat) : Nat := if cn d i (j - i) = 0 then 1 else cn d i (j - i)
def aF (d : Rd) (i j k : Nat) : Int32 := if cn d i (j - i) = 0 ∧ k = aw d i j then 1 else dC d k
theorem cn_le (d : Rd) (i : Nat) : ∀ n, cn d i n ≤ n
  | 0 => Nat.le_refl _
  | n + 1 => by
    have := cn_le d i n
    show cn d i n + (if dC d (i + n) = 0 then 0 else 1) ≤ n + 1
    split <;> omega
theorem ln_le (d : Rd) (i : Nat) : ∀ n, ln d i n ≤ i + n
  | 0 => Nat.zero_le _
  | n + 1 => by
    have := ln_le d i n
    show (if dN d (i + n) = 0 then ln d i n else i + n + 1) ≤ i + (n + 1)
    split <;> omega
theorem ln_ge (d : Rd) (i : Nat) : ∀ n, ln d i n = 0 ∨ i < ln d i n
  | 0 => Or.inl rfl
  | n + 1 => by
    have := ln_ge d i n
    show (if dN d (i + n) = 0 then ln d i n else i + n + 1) = 0 ∨ i < (if dN d (i + n) = 0 then ln d i n else i + n + 1)
    split
    · exact this
    · right; omega
theorem aw_in (d : Rd) {i j : Nat} (h : i < j) : i ≤ aw d i j ∧ aw d i j < j := by
  have h1 := ln_le d i (j - i)
  have h2 := ln_ge d i (j - i)
  unfold aw
  split <;> omega
theorem aF01 {d : Rd} {i j k : Nat} (h : dC d k = 0 ∨ dC d k = 1) : aF d i j k = 0 ∨ aF d i j k = 1 := by
  unfold aF
  split
  · exact Or.inr rfl
  · exact h
theorem iter4 {A B C R : Type} {b : (A → B → C → XW → Option R) → A → B → C → XW → Option R} {z : A → B → C → XW → Option R} (s1 : Nat → A) (s2 : Nat → B) (s3 : Nat → C) (sX : Nat → XW) (N : Nat) (res : R)
    (hs : ∀ k, k < N → ∀ rec, b rec (s1 k) (s2 k) (s3 k) (sX k) = rec (s1 (k + 1)) (s2 (k + 1)) (s3 (k + 1)) (sX (k + 1))) (he : ∀ rec, b rec (s1 N) (s2 N) (s3 N) (sX N) = some res) {n : Nat} (hn : N < n) : iter b z n (s1 0) (s2 0) (s3 0) (sX 0) = some res := by
  have h : ∀ (d k n : Nat), k + d = N → d < n → iter b z n (s1 k) (s2 k) (s3 k) (sX k) = some res := by
    intro d
    induction d with
    | zero =>
      intro k n hk hn
      obtain ⟨n, rfl⟩ : ∃ m, n = m + 1 := ⟨n - 1, by omega⟩
      obtain rfl : k = N := by omega
      exact he _
    | succ d ih =>
      intro k n hk hn
      obtain ⟨n, rfl⟩ : ∃ m, n = m + 1 := ⟨n - 1, by omega⟩
      exact (hs k (by omega) _).trans (ih (k + 1) n (by omega) (by omega))
  exact h N 0 n (by omega) hn
theorem iter5 {A B C D R : Type} {b : (A → B → C → D → XW → Option R) → A → B → C → D → XW → Option R} {z : A → B → C → D → XW → Option R} (s1 : Nat → A) (s2 : Nat → B) (s3 : Nat → C) (s4 : Nat → D) (sX : Nat → XW) (N : Nat) (res : R)
    (hs : ∀ k, k < N → ∀ rec, b rec (s1 k) (s2 k) (s3 k) (s4 k) (sX k) = rec (s1 (k + 1)) (s2 (k + 1)) (s3 (k + 1)) (s4 (k + 1)) (sX (k + 1))) (he : ∀ rec, b rec (s1 N) (s2 N) (s3 N) (s4 N) (sX N) = some res) {n : Nat} (hn : N < n) : iter b z n (s1 0) (s2 0) (s3 0) (s4 0) (sX 0) = some res := by
  have h : ∀ (d k n : Nat), k + d = N → d < n → iter b z n (s1 k) (s2 k) (s3 k) (s4 k) (sX k) = some res := by
    intro d
    induction d with
    | zero =>
      intro k n hk hn
      obtain ⟨n, rfl⟩ : ∃ m, n = m + 1 := ⟨n - 1, by omega⟩
      obtain rfl : k = N := by omega
      exact he _
    | succ d ih =>
      intro k n hk hn
      obtain ⟨n, rfl⟩ : ∃ m, n = m + 1 := ⟨n - 1, by omega⟩
      exact (hs k (by omega) _).trans (ih (k + 1) n (by omega) (by omega))
  exact h N 0 n (by omega) hn
/-- the words' flags of a phrase, copied so far -/
def cpF (f g : Nat → Int32) (i : Nat) (n : Nat) : Nat → Int32 := fun k => if i ≤ k ∧ k < i + n then g k else f k
theorem cpF_0 (f g : Nat → Int32) (i : Nat) : cpF f g i 0 = f := by
  funext k
  unfold cpF
  rw [if_neg (by omega)]
theorem cpF_s (f g : Nat → Int32) (i n : Nat) : va_up (cpF f g i n) (i + n) (g (i + n)) = cpF f g i (n + 1) := by
  funext k
  unfold cpF
  by_cases h : k = i + n
  · subst h
    rw [upE, if_pos (by omega)]
  · rw [upN h]
    by_cases h2 : i ≤ k ∧ k < i + n
    · rw [if_pos h2, if_pos (by omega)]
    · rw [if_neg h2, if_neg (by omega)]
section CPhr
variable {X : XW} {s q id : Nat} {d : Rd}
/-- weighFrom: the state behind k ends -/
def wX (X : XW) (s : Nat) (d : Rd) (id : Nat) (T : Nat → Nat) (i : Nat) : Nat → XW
  | 0 => X
  | k + 1 => wF (wF X (s + 7) (va_up (xA X (s + 7)) i (nI (bs d id T i k).1))) (s + 8) (va_up (xA X (s + 8)) i (nI ((bs d id T i k).2 - i)))
theorem wX_f (X : XW) (s : Nat) (d : Rd) (id : Nat) (T : Nat → Nat) (i : Nat) : ∀ k, xfm (fun a => s + 1 ≤ a ∧ a ≤ s + 8) X (wX X s d id T i k)
  | 0 => xfm.rf _ _
  | k + 1 => (xfm.wF (by omega)).tr (xfm.wF (by omega))
theorem f_weigh (L : LSh X s) (Q : LRd X q) (hq : q + 9 < s ∨ s + 23 < q) (R : CRd X q d) (W : WRd d) {i : Nat} {T : Nat → Nat} (hi : i < dW d) (hT : ∀ j, i < j → j ≤ dW d → xA X (s + 7) j = nI (T j)) (hb : ∀ n, n < dW d - i → (bs d id T i n).1 ≤ 104000) (hT2 : ∀ j, T j ≤ 104000) (hs : ∀ j, i < j → j ≤ dW d → sg d id i j ≤ 6500) :
    fX3_weighFrom (s + 1) q (nI id) (nI i) X = some (wX X s d id T i (dW d - i)) := by
  have W1 := W.1
  have hl := iter3 (b := fun rec => fX3_weighFrom_l6_b rec (s + 1) q (nI id) (nI i)) (z := fun _ _ _ => none) (s1 := fun k => nI (ps (dS d) (i + k) - ps (dS d) i)) (s2 := fun k => nI (i + k)) (sX := wX X s d id T i) (N := dW d - i) (res := wX X s d id T i (dW d - i))
    (fun k hk rec => by
      have F := wX_f X s d id T i k
      have a1 : xA (wX X s d id T i k) (s + 7) (i + k + 1) = nI (T (i + k + 1)) := by
        rw [← hT _ (by omega) (by omega)]
        cases k with
        | zero => rfl
        | succ k => rw [wX, xA_wFn (by omega), xA_wFe, upN (by omega)]
      have a3 : ∀ w w2, wF (wF (wX X s d id T i k) (s + 7) (va_up (xA (wX X s d id T i k) (s + 7)) i w)) (s + 8) (va_up (xA (wX X s d id T i k) (s + 8)) i w2) = wF (wF X (s + 7) (va_up (xA X (s + 7)) i w)) (s + 8) (va_up (xA X (s + 8)) i w2) := by
        intro w w2
        cases k with
        | zero => rfl
        | succ k =>
          rw [wX, xA_wFe, xA_wFn (by omega), xA_wFe, upU, upU]
          generalize va_up (xA X (s + 7)) i w = f1
          generalize va_up (xA X (s + 8)) i w2 = f2
          generalize va_up (xA X (s + 7)) i (nI (bs d id T i k).1) = f3
          generalize va_up (xA X (s + 8)) i (nI ((bs d id T i k).2 - i)) = f4
          unfold wF
          refine congrArg (fun z => (X.1, X.2.1, X.2.2.1, X.2.2.2.1, z, X.2.2.2.2.2)) ?_
          funext b j
          by_cases hb8 : b = s + 8
          · simp [hb8]
          · by_cases hb7 : b = s + 7 <;> simp [hb8, hb7]
      generalize hY : wX X s d id T i k = Y at *
      have L1 := L.mv F
      have Q1 := Q.mv F
      have R1 := R.mf F (by omega)
      have h1 := (R1.2.2.2.1 (i + k) (by omega)).1
      have h3 := (R1.2.2.2.1 (i + k) (by omega)).2.2.1
      have e : ps (dS d) (i + k) - ps (dS d) i + dS d (i + k) = ps (dS d) (i + (k + 1)) - ps (dS d) i := by
        have := ps_mono (f := dS d) (show i ≤ i + k by omega)
        show _ = ps (dS d) (i + k) + dS d (i + k) - _
        omega
      have b1 := hT2 (i + k + 1)
      have b2 := hs (i + k + 1) (by omega) (by omega)
      have hsg : ∀ s0, s0 = (if i + k + 1 < dW d then 1 + dB d (i + k) else 0) → fX3_weighFrom_j57 rec (s + 1) q (nI id) (nI i) (nI (ps (dS d) (i + (k + 1)) - ps (dS d) i)) (nI (i + k)) (nI (ps (dS d) (i + (k + 1)) - ps (dS d) i) - nI id) (nI s0) Y = rec (nI (ps (dS d) (i + (k + 1)) - ps (dS d) i)) (nI (i + k + 1)) (wX X s d id T i (k + 1)) := by
        intro s0 hs0
        have e2 : sq (ps (dS d) (i + (k + 1)) - ps (dS d) i) id + s0 = sg d id i (i + k + 1) := by
          unfold sg
          rw [hs0, show i + k + 1 - 1 = i + k by omega]
          rfl
        unfold fX3_weighFrom_j57 fX3_weighFrom_j96 fX3_weighFrom_j116
        have e3 : (nI (ps (dS d) (i + (k + 1)) - ps (dS d) i) - nI id) * (nI (ps (dS d) (i + (k + 1)) - ps (dS d) i) - nI id) + nI s0 = nI (sg d id i (i + k + 1)) := by rw [sq_nI, nI_add, e2]
        rw [e3]
        cases k with
        | zero =>
          simp (disch := first | omega | assumption | (simp only [LSh_wI, LSh_wF, LRd_wI, LRd_wF, LRu_wI, LRu_wF]; assumption)) only [sK, sI, sP, sZ, sR0, sR1, tK, tI, tP, tR0, tA0, tU0, tR1, tA1, tU1, tR2, tA2, tU2, tR3, tA3, tU3, tR4, tA4, tU4, tR5, tA5, tU5, tR6, tA6, tU6, rwQ, rwQ1, rwA, rwU, dK, dI, dP, dR0, dA0, dR1, dA1, dR2, dA2, dR3, dA3, dR4, dA4, dR5, dQ, dQ1, dMA, uK, uI_, uP_, uR0, uA0, uU0, uR1, uA1, uU1, uR2, uA2, uU2, uR3, uA3, uU3, uR4, uA4, uU4, uR5, uAc, uEc, sb, nI_add, nI_mul, nI_1, nI_subI, nI_p1, nI_m1, Lt0, Lt2, Lt3, Lt4, Lt5, Lt8, Lt9, Lt10, Lt16, Lt24, Lt50, Lt80, Lt240, Lt1060, Lt6, Lt7, Lt11, Lt12, Lt13, Lt99, Lt100, Lt1000, nI_leI, nI_ltI, nI_eq, leT, leF, ltT, ltF, nI_n0, if_true, if_false, not_true_eq_false, not_false_eq_true, xKd_wI, xLn_wI, xR_wI, xA_wI, xL_wI, xQ_wI, xKd_wF, xLn_wF, xR_wF, xI_wF, xL_wF, xQ_wF, a1, xA_wFn, a3]
          rw [if_pos (by omega)]
          rfl
        | succ k =>
          have a2 : xA Y (s + 7) i = nI (bs d id T i k).1 := by rw [← hY, wX, xA_wFn (by omega), xA_wFe, upE]
          have b3 := hb k (by omega)
          simp (disch := first | omega | assumption | (simp only [LSh_wI, LSh_wF, LRd_wI, LRd_wF, LRu_wI, LRu_wF]; assumption)) only [sK, sI, sP, sZ, sR0, sR1, tK, tI, tP, tR0, tA0, tU0, tR1, tA1, tU1, tR2, tA2, tU2, tR3, tA3, tU3, tR4, tA4, tU4, tR5, tA5, tU5, tR6, tA6, tU6, rwQ, rwQ1, rwA, rwU, dK, dI, dP, dR0, dA0, dR1, dA1, dR2, dA2, dR3, dA3, dR4, dA4, dR5, dQ, dQ1, dMA, uK, uI_, uP_, uR0, uA0, uU0, uR1, uA1, uU1, uR2, uA2, uU2, uR3, uA3, uU3, uR4, uA4, uU4, uR5, uAc, uEc, sb, nI_add, nI_mul, nI_1, nI_subI, nI_p1, nI_m1, Lt0, Lt2, Lt3, Lt4, Lt5, Lt8, Lt9, Lt10, Lt16, Lt24, Lt50, Lt80, Lt240, Lt1060, Lt6, Lt7, Lt11, Lt12, Lt13, Lt99, Lt100, Lt1000, nI_leI, nI_ltI, nI_eq, leT, leF, ltT, ltF, nI_n0, if_true, if_false, not_true_eq_false, not_false_eq_true, xKd_wI, xLn_wI, xR_wI, xA_wI, xL_wI, xQ_wI, xKd_wF, xLn_wF, xR_wF, xI_wF, xL_wF, xQ_wF, a1, a2, xA_wFn, a3]
          rw [if_neg (by omega)]
          by_cases hc2 : sg d id i (i + (k + 1) + 1) + T (i + (k + 1) + 1) ≤ (bs d id T i k).1
          · have e5 : bs d id T i (k + 1) = (sg d id i (i + k + 2) + T (i + k + 2), i + k + 2) := if_pos hc2
            rw [if_neg (by omega)]
            show _ = rec _ _ (wF (wF X (s + 7) (va_up (xA X (s + 7)) i (nI (bs d id T i (k + 1)).1))) (s + 8) (va_up (xA X (s + 8)) i (nI ((bs d id T i (k + 1)).2 - i))))
            rw [e5]
            rfl
          · have e5 : bs d id T i (k + 1) = bs d id T i k := if_neg hc2
            rw [if_pos (by omega)]
            show _ = rec _ _ (wF (wF X (s + 7) (va_up (xA X (s + 7)) i (nI (bs d id T i (k + 1)).1))) (s + 8) (va_up (xA X (s + 8)) i (nI ((bs d id T i (k + 1)).2 - i))))
            rw [e5, ← hY]
            rfl
      unfold fX3_weighFrom_l6_b
      by_cases hc : i + k + 1 < dW d
      · simp (disch := first | omega | assumption | (simp only [LSh_wI, LSh_wF, LRd_wI, LRd_wF, LRu_wI, LRu_wF]; assumption)) only [sK, sI, sP, sZ, sR0, sR1, tK, tI, tP, tR0, tA0, tU0, tR1, tA1, tU1, tR2, tA2, tU2, tR3, tA3, tU3, tR4, tA4, tU4, tR5, tA5, tU5, tR6, tA6, tU6, rwQ, rwQ1, rwA, rwU, dK, dI, dP, dR0, dA0, dR1, dA1, dR2, dA2, dR3, dA3, dR4, dA4, dR5, dQ, dQ1, dMA, uK, uI_, uP_, uR0, uA0, uU0, uR1, uA1, uU1, uR2, uA2, uU2, uR3, uA3, uU3, uR4, uA4, uU4, uR5, uAc, uEc, sb, nI_add, nI_mul, nI_1, nI_subI, nI_p1, nI_m1, Lt0, Lt2, Lt3, Lt4, Lt5, Lt8, Lt9, Lt10, Lt16, Lt24, Lt50, Lt80, Lt240, Lt1060, Lt6, Lt7, Lt11, Lt12, Lt13, Lt99, Lt100, Lt1000, nI_leI, nI_ltI, nI_eq, leT, leF, ltT, ltF, nI_n0, if_true, if_false, not_true_eq_false, not_false_eq_true, xKd_wI, xLn_wI, xR_wI, xA_wI, xL_wI, xQ_wI, xKd_wF, xLn_wF, xR_wF, xI_wF, xL_wF, xQ_wF, R1.1, h1, h3, e, nI_1']
        exact hsg _ (by rw [if_pos hc])
      · simp (disch := first | omega | assumption | (simp only [LSh_wI, LSh_wF, LRd_wI, LRd_wF, LRu_wI, LRu_wF]; assumption)) only [sK, sI, sP, sZ, sR0, sR1, tK, tI, tP, tR0, tA0, tU0, tR1, tA1, tU1, tR2, tA2, tU2, tR3, tA3, tU3, tR4, tA4, tU4, tR5, tA5, tU5, tR6, tA6, tU6, rwQ, rwQ1, rwA, rwU, dK, dI, dP, dR0, dA0, dR1, dA1, dR2, dA2, dR3, dA3, dR4, dA4, dR5, dQ, dQ1, dMA, uK, uI_, uP_, uR0, uA0, uU0, uR1, uA1, uU1, uR2, uA2, uU2, uR3, uA3, uU3, uR4, uA4, uU4, uR5, uAc, uEc, sb, nI_add, nI_mul, nI_1, nI_subI, nI_p1, nI_m1, Lt0, Lt2, Lt3, Lt4, Lt5, Lt8, Lt9, Lt10, Lt16, Lt24, Lt50, Lt80, Lt240, Lt1060, Lt6, Lt7, Lt11, Lt12, Lt13, Lt99, Lt100, Lt1000, nI_leI, nI_ltI, nI_eq, leT, leF, ltT, ltF, nI_n0, if_true, if_false, not_true_eq_false, not_false_eq_true, xKd_wI, xLn_wI, xR_wI, xA_wI, xL_wI, xQ_wI, xKd_wF, xLn_wF, xR_wF, xI_wF, xL_wF, xQ_wF, R1.1, h1, h3, e]
        exact hsg _ (by rw [if_neg hc]))
    (fun rec => by
      have F := wX_f X s d id T i (dW d - i)
      generalize hY : wX X s d id T i (dW d - i) = Y at *
      have Q1 := Q.mv F
      have R1 := R.mf F (by omega)
      unfold fX3_weighFrom_l6_b
      rw [show i + (dW d - i) = dW d by omega]
      simp (disch := first | omega | assumption | (simp only [LSh_wI, LSh_wF, LRd_wI, LRd_wF, LRu_wI, LRu_wF]; assumption)) only [sK, sI, sP, sZ, sR0, sR1, tK, tI, tP, tR0, tA0, tU0, tR1, tA1, tU1, tR2, tA2, tU2, tR3, tA3, tU3, tR4, tA4, tU4, tR5, tA5, tU5, tR6, tA6, tU6, rwQ, rwQ1, rwA, rwU, dK, dI, dP, dR0, dA0, dR1, dA1, dR2, dA2, dR3, dA3, dR4, dA4, dR5, dQ, dQ1, dMA, uK, uI_, uP_, uR0, uA0, uU0, uR1, uA1, uU1, uR2, uA2, uU2, uR3, uA3, uU3, uR4, uA4, uU4, uR5, uAc, uEc, sb, nI_add, nI_mul, nI_1, nI_subI, nI_p1, nI_m1, Lt0, Lt2, Lt3, Lt4, Lt5, Lt8, Lt9, Lt10, Lt16, Lt24, Lt50, Lt80, Lt240, Lt1060, Lt6, Lt7, Lt11, Lt12, Lt13, Lt99, Lt100, Lt1000, nI_leI, nI_ltI, nI_eq, leT, leF, ltT, ltF, nI_n0, if_true, if_false, not_true_eq_false, not_false_eq_true, xKd_wI, xLn_wI, xR_wI, xA_wI, xL_wI, xQ_wI, xKd_wF, xLn_wF, xR_wF, xI_wF, xL_wF, xQ_wF, R1.1]) (n := FU) (FUlt (by omega))
  simp only [Nat.add_zero, Nat.sub_self] at hl
  unfold fX3_weighFrom
  rw [show fX3_weighFrom_l6 (s + 1) q (nI id) (nI i) FU 0 (nI i) X = _ from hl, sb]
end CPhr
