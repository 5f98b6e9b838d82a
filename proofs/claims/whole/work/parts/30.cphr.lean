/-! the class's accents and phrases -/
theorem cpF_aF {d : Rd} {f : Nat → Int32} {i j : Nat} (h : cn d i (j - i) ≠ 0) : cpF f (aF d i j) i (j - i) = cpF f (dC d) i (j - i) := by
  funext k
  unfold cpF aF
  rw [if_neg (c := cn d i (j - i) = 0 ∧ k = aw d i j) (fun q => h q.1)]
theorem cpF_aU {d : Rd} {f : Nat → Int32} {i j : Nat} (hij : i < j) (h : cn d i (j - i) = 0) : cpF f (aF d i j) i (j - i) = va_up (cpF f (dC d) i (j - i)) (aw d i j) 1 := by
  have h1 := aw_in d hij
  funext k
  by_cases hk : k = aw d i j
  · subst hk
    rw [upE]
    unfold cpF aF
    rw [if_pos (by omega), if_pos ⟨h, rfl⟩]
  · rw [upN hk]
    unfold cpF aF
    rw [if_neg (c := cn d i (j - i) = 0 ∧ k = aw d i j) (fun q => hk q.2)]
theorem tO_e (d : Rd) (id : Nat) {k : Nat} (hk : k < dW d) : (bs d id (tb d id k) (dW d - (k + 1)) k).2 = tO d id (dW d - (k + 1)) := by
  unfold tO
  rw [show dW d - 1 - (dW d - (k + 1)) = k by omega]
  refine congrArg Prod.snd (bs_congr (fun j hj hj2 => ?_))
  exact (tb_st d id (k := k) (m := dW d) (by omega) (Nat.le_refl _) (by omega)).symm
theorem nI_pm {a : Nat} (h : 0 < a) (h2 : a < 2 ^ 31) : ¬ nI a - 1 = -1 := by
  rw [nI_p1 h]
  intro e
  have h3 := nI_pos (n := a - 1) (by omega)
  rw [e] at h3
  exact h3 (by decide)
section CPh2
variable {X : XW} {s q id : Nat} {d : Rd}
theorem f_accentWords (L : LSh X s) (Q : LRd X q) (hq : q + 9 < s ∨ s + 23 < q) (R : CRd X q d) (W : WRd d) {i j : Nat} (hij : i < j) (hj : j ≤ dW d) : fX3_accentWords (s + 1) q (nI i) (nI j) X = some (nI (ac d i j), wF X (s + 6) (cpF (xA X (s + 6)) (aF d i j) i (j - i))) := by
  have W1 := W.1
  have hl := iter4 (b := fun rec => fX3_accentWords_l9_b rec (s + 1) q (nI j)) (z := fun _ _ _ _ => none) (s1 := fun n => nI (cn d i n)) (s2 := fun n => nI (ln d i n) - 1) (s3 := fun n => nI (i + n)) (sX := fun n => wF X (s + 6) (cpF (xA X (s + 6)) (dC d) i n)) (N := j - i) (res := (nI (cn d i (j - i)), nI (ln d i (j - i)) - 1, wF X (s + 6) (cpF (xA X (s + 6)) (dC d) i (j - i))))
    (fun n hn rec => by
      have F : xfm (fun a => s + 1 ≤ a ∧ a ≤ s + 8) X (wF X (s + 6) (cpF (xA X (s + 6)) (dC d) i n)) := xfm.wF (by omega)
      have F2 : xfm (fun a => s + 1 ≤ a ∧ a ≤ s + 8) X (wF X (s + 6) (cpF (xA X (s + 6)) (dC d) i (n + 1))) := xfm.wF (by omega)
      have R1 := R.mf F (by omega)
      have R2 := R.mf F2 (by omega)
      have L1 := L.mv F
      have Q1 := Q.mv F
      have Q2 := Q.mv F2
      have h01 := (W.2.1 (i + n) (by omega)).2.2.2.2.2
      have e1 : xA (wF X (s + 6) (cpF (xA X (s + 6)) (dC d) i n)) (q + 5) (i + n) = dC d (i + n) := (R1.2.2.2.1 (i + n) (by omega)).2.2.2.2
      have e2 : xA (wF X (s + 6) (cpF (xA X (s + 6)) (dC d) i (n + 1))) (q + 5) (i + n) = dC d (i + n) := (R2.2.2.2.1 (i + n) (by omega)).2.2.2.2
      have e3 : xA (wF X (s + 6) (cpF (xA X (s + 6)) (dC d) i (n + 1))) (q + 4) (i + n) = dN d (i + n) := (R2.2.2.2.1 (i + n) (by omega)).2.2.2.1
      have e4 : wF (wF X (s + 6) (cpF (xA X (s + 6)) (dC d) i n)) (s + 6) (va_up (xA (wF X (s + 6) (cpF (xA X (s + 6)) (dC d) i n)) (s + 6)) (i + n) (dC d (i + n))) = wF X (s + 6) (cpF (xA X (s + 6)) (dC d) i (n + 1)) := by rw [wF_wF, xA_wFe, cpF_s]
      unfold fX3_accentWords_l9_b
      rw [if_neg (nI_ge (show i + n < j by omega) (by omega)), tR4 L1, sb, dR4 Q1, sb, dA4 Q1 (by omega), sb, e1, tU4 L1 (by omega) h01, sb, e4, dR4 Q2, sb, dA4 Q2 (by omega), sb, e2]
      have hj46 : ∀ s0, fX3_accentWords_j46 rec (s + 1) q (nI j) (nI (ln d i n) - 1) (nI (i + n)) s0 (nI (cn d i n)) (wF X (s + 6) (cpF (xA X (s + 6)) (dC d) i (n + 1))) = rec (nI (cn d i n) + s0) (nI (ln d i (n + 1)) - 1) (nI (i + (n + 1))) (wF X (s + 6) (cpF (xA X (s + 6)) (dC d) i (n + 1))) := by
        intro s0
        unfold fX3_accentWords_j46 fX3_accentWords_j66
        rw [dR3 Q2, sb, dA3 Q2 (by omega), sb, e3, nI_1]
        by_cases hN : dN d (i + n) = 0
        · rw [if_pos hN, show ln d i (n + 1) = ln d i n from if_pos hN]
          rfl
        · rw [if_neg hN, show ln d i (n + 1) = i + n + 1 from if_neg hN, nI_pred]
          rfl
      by_cases hC : dC d (i + n) = 0
      · rw [if_pos hC, hj46, show cn d i (n + 1) = cn d i n + 0 from congrArg (cn d i n + ·) (if_pos hC)]
        rw [Int32.add_zero]; rfl
      · rw [if_neg hC, hj46, show cn d i (n + 1) = cn d i n + 1 from congrArg (cn d i n + ·) (if_neg hC)]
        rw [← nI_1])
    (fun rec => by
      unfold fX3_accentWords_l9_b
      rw [show i + (j - i) = j by omega, if_pos (nI_le (Nat.le_refl _) (by omega))]) (n := FU) (FUlt (by omega))
  simp only [cpF_0, wF_self, Nat.add_zero] at hl
  have hl2 : fX3_accentWords_l9 (s + 1) q (nI j) FU 0 (-1) (nI i) X = some (nI (cn d i (j - i)), nI (ln d i (j - i)) - 1, wF X (s + 6) (cpF (xA X (s + 6)) (dC d) i (j - i))) := hl
  have L1 : LSh (wF X (s + 6) (cpF (xA X (s + 6)) (dC d) i (j - i))) s := L.mv (tr1 rfl)
  have c1 := cn_le d i (j - i)
  have l1 := ln_le d i (j - i)
  have a1 := aw_in d hij
  unfold fX3_accentWords
  rw [hl2, sb]
  dsimp only
  by_cases hc : cn d i (j - i) = 0
  · have e5 : ∀ w, w = aw d i j → fX3_accentWords_j100 (nI w) (s + 6) (wF X (s + 6) (cpF (xA X (s + 6)) (dC d) i (j - i))) = some (nI (ac d i j), wF X (s + 6) (cpF (xA X (s + 6)) (aF d i j) i (j - i))) := by
      rintro w rfl
      unfold fX3_accentWords_j100
      rw [tU4 L1 (by omega) (Or.inr rfl), sb, wF_wF, xA_wFe, ← cpF_aU hij hc, show ac d i j = 1 from if_pos hc]
      rfl
    rw [hc, if_pos (by decide), tR4 L1, sb]
    by_cases hn : ln d i (j - i) = 0
    · rw [hn, if_pos (by decide), nI_p1 (by omega)]
      exact e5 _ (by unfold aw; rw [if_pos hn])
    · rw [if_neg (nI_pm (by omega) (by omega)), nI_p1 (by omega)]
      exact e5 _ (by unfold aw; rw [if_neg hn])
  · rw [if_neg (nI_nle (by omega) (by omega)), cpF_aF hc, show ac d i j = cn d i (j - i) from if_neg hc]
theorem f_addPhrase (L : LSh X s) (Q : LRd X q) (hq : q + 9 < s ∨ s + 23 < q) (R : CRd X q d) (W : WRd d) {i j p : Nat} (hij : i < j) (hj : j ≤ dW d) (hp : xI X (s + 1) 7 = nI p) (hp2 : p < 16) :
    ∃ X1, fX3_addPhrase (s + 1) q (nI i) (nI j) X = some X1 ∧ xfm (fun a => s + 1 ≤ a ∧ a ≤ s + 8) X X1 ∧ xI X1 (s + 1) 7 = nI (p + 1) ∧ xA X1 (s + 2) = va_up (xA X (s + 2)) p (nI i) ∧ xA X1 (s + 3) = va_up (xA X (s + 3)) p (nI (j - i)) ∧ xA X1 (s + 4) = va_up (xA X (s + 4)) p (nI (ps (dS d) j - ps (dS d) i)) ∧ xA X1 (s + 5) = va_up (xA X (s + 5)) p (nI (ac d i j)) ∧ xA X1 (s + 6) = cpF (xA X (s + 6)) (aF d i j) i (j - i) ∧ xA X1 (s + 7) = xA X (s + 7) ∧ xA X1 (s + 8) = xA X (s + 8) := by
  have W1 := W.1
  have hl := iter3 (b := fun rec => fX3_addPhrase_l6_b rec (s + 1) q (nI i) (nI j)) (z := fun _ _ _ => none) (s1 := fun k => nI (ps (dS d) (i + k) - ps (dS d) i)) (s2 := fun k => nI (i + k)) (sX := fun _ => X) (N := j - i) (res := (nI (ps (dS d) j - ps (dS d) i), X))
    (fun k hk rec => by
      have h1 := (R.2.2.2.1 (i + k) (by omega)).1
      have e : ps (dS d) (i + k) - ps (dS d) i + dS d (i + k) = ps (dS d) (i + (k + 1)) - ps (dS d) i := by
        have := ps_mono (f := dS d) (show i ≤ i + k by omega)
        show _ = ps (dS d) (i + k) + dS d (i + k) - _
        omega
      unfold fX3_addPhrase_l6_b
      simp (disch := first | omega | assumption | (simp only [LSh_wI, LSh_wF, LRd_wI, LRd_wF, LRu_wI, LRu_wF]; assumption)) only [sK, sI, sP, sZ, sR0, sR1, tK, tI, tP, tR0, tA0, tU0, tR1, tA1, tU1, tR2, tA2, tU2, tR3, tA3, tU3, tR4, tA4, tU4, tR5, tA5, tU5, tR6, tA6, tU6, rwQ, rwQ1, rwA, rwU, dK, dI, dP, dR0, dA0, dR1, dA1, dR2, dA2, dR3, dA3, dR4, dA4, dR5, dQ, dQ1, dMA, uK, uI_, uP_, uR0, uA0, uU0, uR1, uA1, uU1, uR2, uA2, uU2, uR3, uA3, uU3, uR4, uA4, uU4, uR5, uAc, uEc, sb, nI_add, nI_mul, nI_1, nI_subI, nI_p1, nI_m1, Lt0, Lt2, Lt3, Lt4, Lt5, Lt8, Lt9, Lt10, Lt16, Lt24, Lt50, Lt80, Lt240, Lt1060, Lt6, Lt7, Lt11, Lt12, Lt13, Lt99, Lt100, Lt1000, nI_leI, nI_ltI, nI_eq, leT, leF, ltT, ltF, nI_n0, if_true, if_false, not_true_eq_false, not_false_eq_true, xKd_wI, xLn_wI, xR_wI, xA_wI, xL_wI, xQ_wI, xKd_wF, xLn_wF, xR_wF, xI_wF, xL_wF, xQ_wF, h1, e]
      rfl)
    (fun rec => by
      unfold fX3_addPhrase_l6_b
      rw [show i + (j - i) = j by omega]
      simp (disch := first | omega | assumption | (simp only [LSh_wI, LSh_wF, LRd_wI, LRd_wF, LRu_wI, LRu_wF]; assumption)) only [sK, sI, sP, sZ, sR0, sR1, tK, tI, tP, tR0, tA0, tU0, tR1, tA1, tU1, tR2, tA2, tU2, tR3, tA3, tU3, tR4, tA4, tU4, tR5, tA5, tU5, tR6, tA6, tU6, rwQ, rwQ1, rwA, rwU, dK, dI, dP, dR0, dA0, dR1, dA1, dR2, dA2, dR3, dA3, dR4, dA4, dR5, dQ, dQ1, dMA, uK, uI_, uP_, uR0, uA0, uU0, uR1, uA1, uU1, uR2, uA2, uU2, uR3, uA3, uU3, uR4, uA4, uU4, uR5, uAc, uEc, sb, nI_add, nI_mul, nI_1, nI_subI, nI_p1, nI_m1, Lt0, Lt2, Lt3, Lt4, Lt5, Lt8, Lt9, Lt10, Lt16, Lt24, Lt50, Lt80, Lt240, Lt1060, Lt6, Lt7, Lt11, Lt12, Lt13, Lt99, Lt100, Lt1000, nI_leI, nI_ltI, nI_eq, leT, leF, ltT, ltF, nI_n0, if_true, if_false, not_true_eq_false, not_false_eq_true, xKd_wI, xLn_wI, xR_wI, xA_wI, xL_wI, xQ_wI, xKd_wF, xLn_wF, xR_wF, xI_wF, xL_wF, xQ_wF]) (n := FU) (FUlt (by omega))
  simp only [Nat.add_zero, Nat.sub_self] at hl
  have hl2 : fX3_addPhrase_l6 (s + 1) q (nI i) (nI j) FU 0 (nI i) X = some (nI (ps (dS d) j - ps (dS d) i), X) := hl
  generalize hZ1 : wF X (s + 2) (va_up (xA X (s + 2)) p (nI i)) = Z1
  generalize hZ2 : wF Z1 (s + 3) (va_up (xA Z1 (s + 3)) p (nI (j - i))) = Z2
  generalize hZ3 : wF Z2 (s + 4) (va_up (xA Z2 (s + 4)) p (nI (ps (dS d) j - ps (dS d) i))) = Z3
  have G1 : xfm (fun a => s + 1 ≤ a ∧ a ≤ s + 8) X Z1 := by rw [← hZ1]; exact xfm.wF (by omega)
  have G2 : xfm (fun a => s + 1 ≤ a ∧ a ≤ s + 8) X Z2 := by rw [← hZ2]; exact G1.tr (xfm.wF (by omega))
  have G3 : xfm (fun a => s + 1 ≤ a ∧ a ≤ s + 8) X Z3 := by rw [← hZ3]; exact G2.tr (xfm.wF (by omega))
  have i1 : xI Z1 (s + 1) 7 = nI p := by rw [← hZ1]; exact hp
  have i2 : xI Z2 (s + 1) 7 = nI p := by rw [← hZ2]; exact i1
  have i3 : xI Z3 (s + 1) 7 = nI p := by rw [← hZ3]; exact i2
  have L1 := L.mv G1
  have L2 := L.mv G2
  have L3 := L.mv G3
  have hA := f_accentWords L3 (Q.mv G3) hq (R.mf G3 (by omega)) W hij hj
  generalize hZ4 : wF Z3 (s + 6) (cpF (xA Z3 (s + 6)) (aF d i j) i (j - i)) = Z4 at hA
  have G4 : xfm (fun a => s + 1 ≤ a ∧ a ≤ s + 8) X Z4 := by rw [← hZ4]; exact G3.tr (xfm.wF (by omega))
  have L4 := L.mv G4
  have i4 : xI Z4 (s + 1) 7 = nI p := by rw [← hZ4]; exact i3
  refine ⟨wI (wF Z4 (s + 5) (va_up (xA Z4 (s + 5)) p (nI (ac d i j)))) (s + 1) 7 (nI (p + 1)), ?_, (G4.tr (xfm.wF (by omega))).tr (xfm.wI (by omega)), by rw [xI_wI, if_pos ⟨rfl, rfl⟩], ?_, ?_, ?_, ?_, ?_, ?_, ?_⟩
  · have L5 : LSh (wF Z4 (s + 5) (va_up (xA Z4 (s + 5)) p (nI (ac d i j)))) s := L4.mv (tr1 rfl)
    unfold fX3_addPhrase
    rw [hl2, sb]
    dsimp only
    rw [tR0 L, sb, tI L, sb, hp, tU0 L (by omega), sb, hZ1, tR1 L1, sb, tI L1, sb, i1, nI_subI (by omega), tU1 L1 (by omega), sb, hZ2, tR2 L2, sb, tI L2, sb, i2, tU2 L2 (by omega), sb, hZ3, tR3 L3, sb, tI L3, sb, i3, tK L3, sb, hA, sb]
    dsimp only
    rw [tU3 L4 (by omega), sb, tI L5, sb, xI_wF, i4, nI_1, tP L5, sb]
  all_goals rw [xA_wI]
  all_goals simp (disch := omega) only [← hZ4, ← hZ3, ← hZ2, ← hZ1, xA_wFe, xA_wFn]
end CPh2
