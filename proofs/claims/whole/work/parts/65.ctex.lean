/-! the class reads a text -/
theorem lnR_24 (kd pl : Nat → Nat) (i : Nat) : 0 < (lnR kd pl i 24).1 := by
  by_cases c : kd i = 13 ∨ kd i = 14
  · rw [show lnR kd pl i 24 = (5 + 16 * pl i, 0, l00) from (if_neg (fun z => z c)).trans (if_pos rfl)]
    show 0 < 5 + 16 * pl i
    omega
  · rw [show lnR kd pl i 24 = (1 + 16 * pl i, 0, l00) from if_pos c]
    show 0 < 1 + 16 * pl i
    omega
/-- the class's draft holds what is read so far -/
def CR (X : XW) (g n : Nat) (kd : Nat → Nat) (s : RS) : Prop := (s.2.2.2 = 0 ∧ GP X g kd s.1 ∧ s.1 ≤ n ∧ s.2.1 ≤ 24 ∧ xI X (g + 1) 6 = nI s.2.1 ∧ ∃ cds, xI X (g + 1) 7 = nI cds ∧ cds ≤ s.1 ∧ ∀ m, m < s.2.1 → DC X g cds m (s.2.2.1 m)) ∨ (0 < s.2.2.2 ∧ s.2.2.2 ≤ 16005 ∧ xI X g 4 = nI s.2.2.2)
section CTex
variable {X : XW} {g T n : Nat} {kd pl : Nat → Nat}
theorem c_textL (C : CG X g T n kd pl) (P : GP X g kd 0) (h6 : xI X (g + 1) 6 = nI 0) (h7 : xI X (g + 1) 7 = nI 0) : ∃ X1 k, fX1_readText_l25 g FU 1 0 X = some X1 ∧ xfm (SGL g) X X1 ∧ rtm kd (rrun kd pl k) ∧ CR X1 g n kd (rrun kd pl k) := by
  have key := iterP3 (b := fun rec => fX1_readText_l25_b rec g) (z := fun _ _ _ => none) (fun m x y Z => ∃ k, k ≤ 25 ∧ m = 26 - k ∧ y = nI k ∧ xfm (SGL g) X Z ∧ CR Z g n kd (rrun kd pl k) ∧ ((x = 1 ∧ (rrun kd pl k).2.2.2 = 0 ∧ (rrun kd pl k).2.1 = k) ∨ (x = 0 ∧ ¬ (rrun kd pl k).2.2.2 = 0))) (fun Z => ∃ k, xfm (SGL g) X Z ∧ rtm kd (rrun kd pl k) ∧ CR Z g n kd (rrun kd pl k)) ?_ FU 26 1 0 X (FUlt (by decide)) ⟨0, by decide, rfl, rfl, xfm.rf _ _, Or.inl ⟨rfl, P, Nat.zero_le _, Nat.zero_le _, h6, 0, h7, Nat.le_refl _, fun m hm => absurd hm (Nat.not_lt_zero _)⟩, Or.inl ⟨rfl, rfl, rfl⟩⟩
  · obtain ⟨Z, g1, k, g2, g3, g4⟩ := key
    exact ⟨Z, k, g1, g2, g3, g4⟩
  rintro m x y Z ⟨k, hk, rfl, rfl, F, M, hx⟩
  have CZ := C.ml F
  rcases hx with ⟨rfl, f0, hNk⟩ | ⟨rfl, f0⟩
  rotate_left 1
  · left
    refine ⟨Z, fun rec => ?_, k, F, Or.inl f0, M⟩
    unfold fX1_readText_l25_b
    by_cases q : 24 < k
    · rw [if_pos (show (24 : Int32) < nI k from nI_lt (a := 24) q (by omega))]
    · rw [if_neg (show ¬ (24 : Int32) < nI k from nI_nlt (a := 24) (by omega) (by decide)), if_pos rfl]
  rcases M with ⟨-, M1, M2, M3, M4, cds, M5, M6, M7⟩ | ⟨f1, -⟩
  rotate_left 1
  · omega
  have hkb := CZ.kb M2
  by_cases c : kd (rrun kd pl k).1 = 24
  · left
    refine ⟨Z, fun rec => ?_, k, F, Or.inr c, Or.inl ⟨f0, M1, M2, M3, M4, cds, M5, M6, M7⟩⟩
    unfold fX1_readText_l25_b
    rw [if_neg (show ¬ (24 : Int32) < nI k from nI_nlt (a := 24) (by omega) (by decide)), if_neg (by decide), gI_of CZ.1, sb, M1.2.1, c, if_pos (by decide)]
  · right
    obtain ⟨r, Z1, z1, z2⟩ := c_line CZ M2 M3 M1 M5 M6 M7
    rw [hNk] at z1
    have hnt : ¬ rtm kd (rrun kd pl k) := fun z => z.elim (fun y => y f0) c
    have er : rrun kd pl (k + 1) = rstp kd pl (rrun kd pl k) := rfl
    have es : rstp kd pl (rrun kd pl k) = _ := if_neg hnt
    have hb : ∀ rec, fX1_readText_l25_b rec g 1 (nI k) Z = rec r (nI (k + 1)) Z1 := fun rec => by
      unfold fX1_readText_l25_b
      rw [if_neg (show ¬ (24 : Int32) < nI k from nI_nlt (a := 24) (by omega) (by decide)), if_neg (by decide), gI_of CZ.1, sb, M1.2.1, if_neg (show ¬ nI (kd (rrun kd pl k).1) = (24 : Int32) from fun z => c ((nI_eq (b := 24) (by omega) (by decide)).mp z)), gK_of' CZ.1, sb, z1, sb, nI_1]
    rcases z2 with ⟨rfl, a1, a2, a3, a4, a5, a6, cds', a7, a8, a9⟩ | ⟨rfl, a1, a2, a3, a4⟩
    · have hN24 : ¬ (rrun kd pl k).2.1 = 24 := fun z => by
        rw [z] at a2
        have := lnR_24 kd pl (rrun kd pl k).1
        omega
      refine ⟨26 - (k + 1), 1, nI (k + 1), Z1, by omega, ⟨k + 1, by omega, rfl, rfl, F.tr a1, ?_⟩, hb⟩
      rw [er, es, if_pos a2]
      refine ⟨Or.inl ⟨rfl, a3, a5, ?_, a6, cds', a7, a8, a9⟩, Or.inl ⟨rfl, rfl, ?_⟩⟩
      · show (rrun kd pl k).2.1 + 1 ≤ 24
        omega
      · show (rrun kd pl k).2.1 + 1 = k + 1
        omega
    · refine ⟨26 - (k + 1), 0, nI (k + 1), Z1, by omega, ⟨k + 1, by omega, rfl, rfl, F.tr a1, ?_⟩, hb⟩
      rw [er, es, if_neg (by omega)]
      refine ⟨Or.inr ⟨a2, a3, a4⟩, Or.inr ⟨rfl, fun z => ?_⟩⟩
      have z' : (lnR kd pl (rrun kd pl k).1 (rrun kd pl k).2.1).1 = 0 := z
      omega
theorem c_text {p : Nat} {c : Nat → Nat} (hx : CTx X p T c) (hp : p + 1 < g) (k2 : xKd X g = 2) (r0 : xR X g 0 = some (g + 1)) (r1 : xR X g 1 = some (g + 8)) (LT : LTk X (g + 8) (g + 9) (g + 10) T) (LR : LRu X (g + 1)) (ln : xLn X (g + 1 + 6) = T) (i2 : xI X g 2 = 0) (i4 : xI X g 4 = 0) (i6 : xI X (g + 1) 6 = 0) (i7 : xI X (g + 1) 7 = 0) : ∃ X1 k, fX1_readText g p X = some (nI (rrun (kdT c T) (plT c T) k).2.2.2, X1) ∧ xfm (fun a => g ≤ a ∧ a ≤ g + 10) X X1 ∧ rtm (kdT c T) (rrun (kdT c T) (plT c T) k) ∧ TSo T (tfin c T) ∧ (rrun (kdT c T) (plT c T) k).2.2.2 ≤ 16005 ∧ ((rrun (kdT c T) (plT c T) k).2.2.2 = 0 → CRu X1 (g + 1) (rrun (kdT c T) (plT c T) k).2.1 (rrun (kdT c T) (plT c T) k).2.2.1) := by
  have hT := hx.2.2.2.2.1
  obtain ⟨Y, y1, FY, hTS, y2⟩ := f_cutText hx (by unfold SQ; omega) LT (by omega)
  have K2 : xKd Y g = 2 := (FY.kd _).trans k2
  have R0 : xR Y g 0 = some (g + 1) := (FY.rr _ _).trans r0
  have R1 : xR Y g 1 = some (g + 8) := (FY.rr _ _).trans r1
  have LTY := LT.mv FY
  have eg : xI Y g = xI X g := (FY.2 g (by unfold SQ; omega)).1
  have eR : xI Y (g + 1) = xI X (g + 1) := (FY.2 (g + 1) (by unfold SQ; omega)).1
  have a0 : xA Y (g + 9) 0 = nI (kdT c T 0) := (y2.2 0 (by omega)).1
  generalize hZ : wI Y g 3 (nI (kdT c T 0)) = Z
  have FZ : xfm (fun a => g ≤ a ∧ a ≤ g + 10) Y Z := by rw [← hZ]; exact xfm.wI ⟨by omega, by omega⟩
  have FYw : xfm (fun a => g ≤ a ∧ a ≤ g + 10) X Y := FY.wk (fun a h => by unfold SQ at h; omega)
  have hn : (tfin c T).2.1 ≤ T := by
    have := hTS.1
    have := hTS.2.1
    omega
  have C : CG Z g T (tfin c T).2.1 (kdT c T) (plT c T) := by
    refine ⟨(FZ.kd _).trans K2, (FZ.rr _ _).trans R0, (FZ.rr _ _).trans R1, LTY.mv FZ, ?_, (LR.mv FY).mv FZ, by rw [FZ.ln, FY.ln]; exact ln, hn, hT, fun j hj => ?_, if_pos rfl, fun j hj => ?_⟩
    · unfold CTo
      rw [← hZ, xA_wI, xI_wa (by omega)]
      exact y2
    · rw [show kdT c T j = (tfin c T).2.2.1 j from if_neg (by omega)]
      exact ⟨(hTS.2.2 j hj).1, (hTS.2.2 j hj).2.1⟩
    · show (if j = (tfin c T).2.1 then T else (tfin c T).2.2.2 j) ≤ 1000
      by_cases e : j = (tfin c T).2.1
      · rw [if_pos e]; exact hT
      · rw [if_neg e]
        have := (hTS.2.2 j (by omega)).2.2
        omega
  obtain ⟨V, k, v1, v2, v3, v4⟩ := c_textL C ⟨by rw [← hZ, xI_wn (by decide), eg]; exact i2, by rw [← hZ, xI_we], by rw [← hZ, xI_wn (by decide), eg]; exact i4⟩ (by rw [← hZ, xI_wa (by omega), eR]; exact i6) (by rw [← hZ, xI_wa (by omega), eR]; exact i7)
  have CV := C.ml v2
  have hd : ∀ y, xI V g 4 = y → fX1_readText g p X = some (y, V) := fun y hy => by
    unfold fX1_readText
    have a00 : aI Y (g + 9) 1 0 = some (nI (kdT c T 0)) := by
      have := aI_of (t := 1) LTY.2.2.2.1.1 LTY.2.2.2.1.2 (show 0 < T + 1 by omega) (by omega)
      rw [a0] at this
      exact this
    rw [gR_of k2 r1, sb, gK_of' LT.1, sb, y1, sb, gR_of K2 R1, sb, gR_of LTY.1 LTY.2.1, sb, a00, sb, pI_of K2, sb, hZ, v1, sb, gI_of CV.1, sb, hy]
  refine ⟨V, k, ?_, (FYw.tr FZ).tr (v2.wk (fun a h => by unfold SGL at h; omega)), v3, hTS, ?_, fun h0 => ?_⟩
  · rcases v4 with ⟨w1, w2, -⟩ | ⟨w1, w2, w3⟩
    · rw [w1]
      exact hd _ w2.2.2
    · exact hd _ w3
  · rcases v4 with ⟨w1, w2, -⟩ | ⟨w1, w2, w3⟩
    · omega
    · exact w2
  · rcases v4 with ⟨w1, w2, w3, w4, w5, cds, w6, w7, w8⟩ | ⟨w1, w2, w3⟩
    · refine ⟨CV.2.2.2.2.2.1, w5, w4, fun m hm => ?_⟩
      obtain ⟨d1, d2, b, d3, d4, d5, d6, d7, d8⟩ := w8 m hm
      exact ⟨d1, d2, b, d3, d4, d5, d7, d8⟩
    · omega
end CTex
