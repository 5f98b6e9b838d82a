/-! the class's partWords; the reference's accents -/
/-- the class's Parting holds the phrases of d -/
def CPh (X : XW) (s : Nat) (d : Rd) (id : Nat) : Prop := xI X (s + 1) 7 = nI (pN d id) ∧ (∀ j, j ≤ dW d → xA X (s + 7) j = nI (lC d id j)) ∧ ∀ k, k < pN d id → xA X (s + 2) k = nI (fs d id k) ∧ xA X (s + 3) k = nI (fs d id (k + 1) - fs d id k) ∧ xA X (s + 4) k = nI (pS d id k) ∧ xA X (s + 5) k = nI (ac d (fs d id k) (fs d id (k + 1))) ∧ ∀ w, fs d id k ≤ w → w < fs d id (k + 1) → xA X (s + 6) w = aF d (fs d id k) (fs d id (k + 1)) w
theorem fs_dj (d : Rd) (id : Nat) {j k w : Nat} (h1 : fs d id j ≤ w) (h2 : w < fs d id (j + 1)) (h3 : fs d id k ≤ w) (h4 : w < fs d id (k + 1)) : j = k := by
  by_cases q : j = k
  · exact q
  · by_cases q2 : j < k
    · have := fs_mono2 d id (show j + 1 ≤ k by omega)
      omega
    · have := fs_mono2 d id (show k + 1 ≤ j by omega)
      omega
section CPh3
variable {X : XW} {s q id : Nat} {d : Rd}
theorem f_pW17 (L : LSh X s) (Q : LRd X q) (hq : q + 9 < s ∨ s + 23 < q) (R : CRd X q d) (W : WRd d) (hid2 : id ≤ 20) (h0 : xA X (s + 7) (dW d) = 0) : ∃ X1, fX3_partWords_l17 (s + 1) q (nI id) FU (nI (dW d) - 1) X = some X1 ∧ xfm (fun a => s + 1 ≤ a ∧ a ≤ s + 8) X X1 ∧ (∀ j, j ≤ dW d → xA X1 (s + 7) j = nI (lC d id j)) ∧ ∀ j, j < dW d → xA X1 (s + 8) j = nI (tO d id j - j) := by
  have W1 := W.1
  refine iterP2 (b := fun rec => fX3_partWords_l17_b rec (s + 1) q (nI id)) (z := fun _ _ => none) (fun m a Y => ∃ k, k ≤ dW d ∧ m = dW d - k ∧ a = nI (dW d - k) - 1 ∧ xfm (fun a => s + 1 ≤ a ∧ a ≤ s + 8) X Y ∧ (∀ j, dW d - k ≤ j → j ≤ dW d → xA Y (s + 7) j = nI (tb d id k j)) ∧ ∀ j, dW d - k ≤ j → j < dW d → xA Y (s + 8) j = nI (tO d id j - j)) (fun X1 => xfm (fun a => s + 1 ≤ a ∧ a ≤ s + 8) X X1 ∧ (∀ j, j ≤ dW d → xA X1 (s + 7) j = nI (lC d id j)) ∧ ∀ j, j < dW d → xA X1 (s + 8) j = nI (tO d id j - j)) ?_ FU (dW d) _ _ (FUlt (by omega)) ⟨0, Nat.zero_le _, rfl, rfl, xfm.rf _ _, fun j h1 h2 => by rw [show j = dW d by omega]; exact h0, fun j h1 h2 => by omega⟩
  rintro m a Y ⟨k, hk, rfl, rfl, F, hj, ht⟩
  by_cases hkw : k = dW d
  · subst hkw
    left
    refine ⟨Y, fun rec => ?_, F, fun j hjw => hj j (by omega) hjw, fun j hjw => ht j (by omega) hjw⟩
    show fX3_partWords_l17_b rec (s + 1) q (nI id) (nI (dW d - dW d) - 1) Y = _
    unfold fX3_partWords_l17_b
    rw [Nat.sub_self, if_pos (by decide)]
  · right
    have L1 := L.mv F
    have Q1 := Q.mv F
    have R1 := R.mf F (by omega)
    have hi : dW d - (k + 1) < dW d := by omega
    have hw := f_weigh (id := id) L1 Q1 hq R1 W (i := dW d - (k + 1)) (T := tb d id k) hi (fun j q1 q2 => hj j (by omega) q2) (fun n hn => bs_bd W hid2 (by omega) (by omega)) (fun j => by have := tb_bd W hid2 k hk j; omega) (fun j q1 q2 => sg_bd W hid2 q2 (by omega))
    rw [show dW d - (dW d - (k + 1)) = k + 1 by omega] at hw
    refine ⟨dW d - (k + 1), nI (dW d - (k + 1)) - 1, wX Y s d id (tb d id k) (dW d - (k + 1)) (k + 1), by omega, ⟨k + 1, by omega, rfl, rfl, F.tr (wX_f Y s d id _ _ _), fun j q1 q2 => ?_, fun j q1 q2 => ?_⟩, fun rec => ?_⟩
    · rw [wX, xA_wFn (by omega), xA_wFe]
      by_cases q3 : j = dW d - (k + 1)
      · rw [q3, upE, tb_e]
      · rw [upN q3, hj j (by omega) q2]
        exact congrArg nI (if_neg q3).symm
    · rw [wX, xA_wFe]
      by_cases q3 : j = dW d - (k + 1)
      · rw [q3, upE, tO_e d id (by omega)]
      · rw [upN q3, ht j (by omega) q2]
    · show fX3_partWords_l17_b rec (s + 1) q (nI id) (nI (dW d - k) - 1) Y = _
      unfold fX3_partWords_l17_b
      rw [nI_p1 (by omega), show dW d - k - 1 = dW d - (k + 1) by omega, if_neg (nI_pos (by omega)), tK L1, sb, hw, sb]
      exact congrArg (fun z => rec z _) (Int32.sub_eq_add_neg ..).symm
theorem f_partWords (L : LSh X s) (Q : LRd X q) (hq : q + 9 < s ∨ s + 23 < q) (R : CRd X q d) (W : WRd d) (hid2 : id ≤ 20) : ∃ X1, fX3_partWords (s + 1) q (nI id) X = some X1 ∧ xfm (fun a => s + 1 ≤ a ∧ a ≤ s + 8) X X1 ∧ CPh X1 s d id := by
  have W1 := W.1
  have hpn := pN_le d id
  have hpe := pN_e d id
  have F0 : xfm (fun a => s + 1 ≤ a ∧ a ≤ s + 8) X (wF X (s + 7) (va_up (xA X (s + 7)) (dW d) 0)) := xfm.wF (by omega)
  have L0 := L.mv F0
  have Q0 := Q.mv F0
  have R0 := R.mf F0 (by omega)
  obtain ⟨Y, hY, FY, hT, hO⟩ := f_pW17 L0 Q0 hq R0 W hid2 (by rw [xA_wFe, upE])
  have Ly := L0.mv FY
  have F1 : xfm (fun a => s + 1 ≤ a ∧ a ≤ s + 8) X (wI Y (s + 1) 7 0) := (F0.tr FY).tr (xfm.wI (by omega))
  have hl : ∃ X1, fX3_partWords_l44 (s + 1) q FU 0 0 (wI Y (s + 1) 7 0) = some X1 ∧ xfm (fun a => s + 1 ≤ a ∧ a ≤ s + 8) X X1 ∧ CPh X1 s d id := by
    refine iterP3 (b := fun rec => fX3_partWords_l44_b rec (s + 1) q) (z := fun _ _ _ => none) (fun m a c Z => ∃ k i, k ≤ pN d id ∧ i ≤ fs d id k ∧ m = dW d - i ∧ a = nI (fs d id k) ∧ c = nI i ∧ xfm (fun a => s + 1 ≤ a ∧ a ≤ s + 8) X Z ∧ xI Z (s + 1) 7 = nI k ∧ (∀ j, j ≤ dW d → xA Z (s + 7) j = nI (lC d id j)) ∧ (∀ j, j < dW d → xA Z (s + 8) j = nI (tO d id j - j)) ∧ ∀ k', k' < k → xA Z (s + 2) k' = nI (fs d id k') ∧ xA Z (s + 3) k' = nI (fs d id (k' + 1) - fs d id k') ∧ xA Z (s + 4) k' = nI (pS d id k') ∧ xA Z (s + 5) k' = nI (ac d (fs d id k') (fs d id (k' + 1))) ∧ ∀ w, fs d id k' ≤ w → w < fs d id (k' + 1) → xA Z (s + 6) w = aF d (fs d id k') (fs d id (k' + 1)) w) (fun X1 => xfm (fun a => s + 1 ≤ a ∧ a ≤ s + 8) X X1 ∧ CPh X1 s d id) ?_ FU (dW d) _ _ _ (FUlt (by omega)) ⟨0, 0, Nat.zero_le _, Nat.zero_le _, rfl, rfl, rfl, F1, by rw [xI_wI, if_pos ⟨rfl, rfl⟩]; rfl, hT, hO, fun j hj => absurd hj (Nat.not_lt_zero _)⟩
    rintro m a c Z ⟨k, i, hk, hi, rfl, rfl, rfl, F, hx, hT1, hO1, ha⟩
    have L1 := L.mv F
    have Q1 := Q.mv F
    have R1 := R.mf F (by omega)
    have hle := fs_le d id k
    by_cases hiw : i = dW d
    · left
      have hk2 : k = pN d id := by
        by_cases hk3 : k < pN d id
        · have := pN_lt d id hk3
          omega
        · omega
      refine ⟨Z, fun rec => ?_, F, by rw [hx, hk2], hT1, fun j hj => ha j (by omega)⟩
      unfold fX3_partWords_l44_b
      rw [dI Q1, sb, R1.1, if_pos (nI_le (by omega) (by omega))]
    · right
      by_cases hik : i = fs d id k
      · have hf : fs d id k < dW d := by omega
        have hk3 : k < pN d id := by
          by_cases e : k = pN d id
          · rw [e, hpe] at hf; omega
          · omega
        have hs := fs_s d id hf
        have hlt := fs_lt d id hf
        have hle2 := fs_le d id (k + 1)
        obtain ⟨Z1, h1, G, g0, g2, g3, g4, g5, g6, g7, g8⟩ := f_addPhrase L1 Q1 hq R1 W (i := fs d id k) (j := fs d id (k + 1)) (p := k) hlt hle2 hx (by omega)
        refine ⟨dW d - (i + 1), nI (fs d id (k + 1)), nI (i + 1), Z1, by omega, ⟨k + 1, i + 1, by omega, by omega, rfl, rfl, rfl, F.tr G, g0, by rw [g7]; exact hT1, by rw [g8]; exact hO1, fun k' hk' => ?_⟩, fun rec => ?_⟩
        · rw [g2, g3, g4, g5, g6]
          by_cases hkk : k' = k
          · subst hkk
            rw [upE, upE, upE, upE]
            refine ⟨rfl, rfl, rfl, rfl, fun w h1 h2 => ?_⟩
            unfold cpF
            rw [if_pos (by omega)]
          · rw [upN hkk, upN hkk, upN hkk, upN hkk]
            obtain ⟨b1, b2, b3, b4, b5⟩ := ha k' (by omega)
            refine ⟨b1, b2, b3, b4, fun w h1 h2 => ?_⟩
            have := fs_mono2 d id (show k' + 1 ≤ k by omega)
            unfold cpF
            rw [if_neg (by omega)]
            exact b5 w h1 h2
        · have ht := hO1 (fs d id k) hf
          subst hik
          unfold fX3_partWords_l44_b fX3_partWords_j78
          rw [dI Q1, sb, R1.1, if_neg (nI_ge hf (by omega)), if_pos rfl, tR6 L1, sb, tA6 L1 (by omega), sb, ht, tK L1, sb, nI_add, show fs d id k + (tO d id (fs d id k) - fs d id k) = fs d id (k + 1) by omega, h1, sb, nI_1]
      · refine ⟨dW d - (i + 1), nI (fs d id k), nI (i + 1), Z, by omega, ⟨k, i + 1, hk, by omega, rfl, rfl, rfl, F, hx, hT1, hO1, ha⟩, fun rec => ?_⟩
        unfold fX3_partWords_l44_b fX3_partWords_j78
        rw [dI Q1, sb, R1.1, if_neg (nI_ge (by omega) (by omega)), if_neg (fun e => hik ((nI_eq (by omega) (by omega)).mp e)), nI_1]
  obtain ⟨X1, h1, h2, h3⟩ := hl
  refine ⟨X1, ?_, h2, h3⟩
  have e0 : xI (wF X (s + 7) (va_up (xA X (s + 7)) (dW d) 0)) q 6 = nI (dW d) := R.1
  unfold fX3_partWords
  rw [tR5 L, sb, dI Q, sb, R.1, tU5 L (by omega), sb, dI Q0, sb, e0, hY, sb, tP Ly, sb, h1, sb]
end CPh3
section MAcc
variable {X : XW} {o r id : Nat} {d : Rd}
def lw (d : Rd) (i j n : Nat) : Nat := if ln d i n = 0 then j - 1 else ln d i n - 1
def ln1 (d : Rd) (i n : Nat) : Int32 := if ln d i n = 0 then 0 else 1
theorem m_accents (L : LM X o) (hr : r < 4) (R : MRd X o r d) (W : WRd d) (P : MPh X o d id) {k : Nat} (hk : k < pN d id) : fX10_accents o (nI r) (nI k) X = some (nI (ac d (fs d id k) (fs d id (k + 1))), wF X (mA o 46) (cpF (xA X (mA o 46)) (aF d (fs d id k) (fs d id (k + 1))) (fs d id k) (fs d id (k + 1) - fs d id k))) := by
  have W1 := W.1
  have hf := pN_lt d id hk
  have hij := fs_lt d id hf
  have hj := fs_le d id (k + 1)
  have hpn := pN_le d id
  obtain ⟨p1, p2, -⟩ := P.2.2 k hk
  generalize fs d id k = i at *
  generalize fs d id (k + 1) = j at *
  have hl := iter5 (b := fun rec => fX10_accents_l32_b rec o (nI r) (nI j)) (z := fun _ _ _ _ _ => none) (s1 := fun n => nI (cn d i n)) (s2 := fun n => nI (lw d i j n)) (s3 := fun n => ln1 d i n) (s4 := fun n => nI (i + n)) (sX := fun n => wF X (mA o 46) (cpF (xA X (mA o 46)) (dC d) i n)) (N := j - i) (res := (nI (cn d i (j - i)), nI (lw d i j (j - i)), wF X (mA o 46) (cpF (xA X (mA o 46)) (dC d) i (j - i))))
    (fun n hn rec => by
      have F : mfm o [46] X (wF X (mA o 46) (cpF (xA X (mA o 46)) (dC d) i n)) := mfm.wF (by decide) (by decide) (by decide)
      have F2 : mfm o [46] X (wF X (mA o 46) (cpF (xA X (mA o 46)) (dC d) i (n + 1))) := mfm.wF (by decide) (by decide) (by decide)
      have R1 := R.mf F (by decide)
      have R2 := R.mf F2 (by decide)
      have L1 := L.mf F
      have L2 := L.mf F2
      have h01 := (W.2.1 (i + n) (by omega)).2.2.2.2.2
      have e1 : xA (wF X (mA o 46) (cpF (xA X (mA o 46)) (dC d) i n)) (mA o 35) (16 * r + (i + n)) = dC d (i + n) := (R1.2.2.1 (i + n) (by omega)).2.2.2.2
      have e2 : xA (wF X (mA o 46) (cpF (xA X (mA o 46)) (dC d) i (n + 1))) (mA o 46) (i + n) = dC d (i + n) := by
        rw [xA_wFe]; unfold cpF; rw [if_pos (by omega)]
      have e3 : xA (wF X (mA o 46) (cpF (xA X (mA o 46)) (dC d) i (n + 1))) (mA o 34) (16 * r + (i + n)) = dN d (i + n) := (R2.2.2.1 (i + n) (by omega)).2.2.2.1
      have e4 : wF (wF X (mA o 46) (cpF (xA X (mA o 46)) (dC d) i n)) (mA o 46) (va_up (xA (wF X (mA o 46) (cpF (xA X (mA o 46)) (dC d) i n)) (mA o 46)) (i + n) (dC d (i + n))) = wF X (mA o 46) (cpF (xA X (mA o 46)) (dC d) i (n + 1)) := by rw [wF_wF, xA_wFe, cpF_s]
      unfold fX10_accents_l32_b
      rw [if_neg (nI_ge (show i + n < j by omega) (by omega)), rM46 L1, sb, rM35 L1, sb, Lt16, nI_mul, nI_add, aM35 L1 (by omega), sb, e1, uM46 L1 (by omega) h01, sb, e4, rM46 L2, sb, aM46 L2 (by omega), sb, e2]
      have hj75 : ∀ s0, fX10_accents_j75 rec o (nI r) (nI j) (nI (lw d i j n)) (ln1 d i n) (nI (i + n)) s0 (nI (cn d i n)) (wF X (mA o 46) (cpF (xA X (mA o 46)) (dC d) i (n + 1))) = rec (nI (cn d i n) + s0) (nI (lw d i j (n + 1))) (ln1 d i (n + 1)) (nI (i + (n + 1))) (wF X (mA o 46) (cpF (xA X (mA o 46)) (dC d) i (n + 1))) := by
        intro s0
        unfold fX10_accents_j75 fX10_accents_j107 fX10_accents_j112 fX10_accents_j114 fX10_accents_j136 fX10_accents_j141
        have hh : 16 * r + (i + n) < 64 := by omega
        simp only [Lt16, nI_mul, nI_add, rM34 L2, sb, aM34 L2 hh, e3, nI_1, nI_p1 (show 0 < j by omega)]
        by_cases hN : dN d (i + n) = 0
        · rw [if_pos hN]
          have e5 : ln d i (n + 1) = ln d i n := if_pos hN
          by_cases h0 : ln d i n = 0
          · have e6 : ln1 d i n = 0 := if_pos h0
            have e7 : ln1 d i (n + 1) = 0 := by unfold ln1; rw [e5, if_pos h0]
            have e8 : lw d i j n = j - 1 := if_pos h0
            have e9 : lw d i j (n + 1) = j - 1 := by unfold lw; rw [e5, if_pos h0]
            rw [e6, e7, e8, if_pos rfl]
            by_cases hlast : i + n = j - 1
            · rw [if_pos (congrArg nI hlast), if_pos rfl, if_pos hN, show lw d i j (n + 1) = i + n by omega]
              rfl
            · rw [e9, if_neg (fun e => hlast ((nI_eq (by omega) (by omega)).mp e)), if_pos rfl, if_pos hN]
              rfl
          · have e6 : ln1 d i n = 1 := if_neg h0
            have e7 : ln1 d i (n + 1) = 1 := by unfold ln1; rw [e5, if_neg h0]
            have e9 : lw d i j (n + 1) = lw d i j n := by unfold lw; rw [e5]
            rw [e6, e7, e9, if_neg (by decide), if_neg (by decide)]
            rfl
        · rw [if_neg hN]
          have e5 : ln d i (n + 1) = i + n + 1 := if_neg hN
          have e7 : ln1 d i (n + 1) = 1 := by unfold ln1; rw [e5, if_neg (by omega)]
          have e9 : lw d i j (n + 1) = i + n := by unfold lw; rw [e5, if_neg (by omega)]; rfl
          rw [e7, e9]
          by_cases h0 : ln d i n = 0
          · rw [show ln1 d i n = 0 from if_pos h0, if_pos rfl, if_neg hN]
            rfl
          · rw [show ln1 d i n = 1 from if_neg h0, if_neg (by decide)]
            rfl
      by_cases hC : dC d (i + n) = 0
      · rw [if_pos hC, hj75, show cn d i (n + 1) = cn d i n + 0 from congrArg (cn d i n + ·) (if_pos hC)]
        rw [Int32.add_zero]; rfl
      · rw [if_neg hC, hj75, show cn d i (n + 1) = cn d i n + 1 from congrArg (cn d i n + ·) (if_neg hC)]
        rw [← nI_1])
    (fun rec => by
      unfold fX10_accents_l32_b
      rw [show i + (j - i) = j by omega, if_pos (nI_le (Nat.le_refl _) (by omega))]) (n := FU) (FUlt (by omega))
  simp only [cpF_0, wF_self, Nat.add_zero] at hl
  have hl2 : fX10_accents_l32 o (nI r) (nI j) FU 0 (nI (j - 1)) 0 (nI i) X = some (nI (cn d i (j - i)), nI (lw d i j (j - i)), wF X (mA o 46) (cpF (xA X (mA o 46)) (dC d) i (j - i))) := hl
  have L1 : LM (wF X (mA o 46) (cpF (xA X (mA o 46)) (dC d) i (j - i))) o := L.mv (tr1 rfl)
  have c1 := cn_le d i (j - i)
  have a1 := aw_in d hij
  unfold fX10_accents
  rw [rM43 L, sb, aM43 L (by omega), sb, p1, rM44 L, sb, aM44 L (by omega), sb, p2, nI_add, show i + (j - i) = j by omega, nI_p1 (by omega), hl2, sb]
  dsimp only
  by_cases hc : cn d i (j - i) = 0
  · rw [hc, if_pos (by decide), rM46 L1, sb, show lw d i j (j - i) = aw d i j from rfl, uM46 L1 (by omega) (Or.inr rfl), sb, wF_wF, xA_wFe, ← cpF_aU hij hc, show ac d i j = 1 from if_pos hc]
    rfl
  · rw [if_neg (nI_ne0 (by omega) (by omega)), cpF_aF hc, show ac d i j = cn d i (j - i) from if_neg hc]
end MAcc
