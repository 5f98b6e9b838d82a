/-! the reference reads a text: lines, kept or not -/
abbrev RS : Type := Nat × Nat × (Nat → Ln) × Nat
abbrev rtm (kd : Nat → Nat) (s : RS) : Prop := ¬ s.2.2.2 = 0 ∨ kd s.1 = 24
noncomputable def rstp (kd pl : Nat → Nat) (s : RS) : RS := if rtm kd s then s else if (lnR kd pl s.1 s.2.1).1 = 0 then ((lnR kd pl s.1 s.2.1).2.1, s.2.1 + 1, (fun m => if m = s.2.1 then (lnR kd pl s.1 s.2.1).2.2 else s.2.2.1 m), 0) else (s.1, s.2.1, s.2.2.1, (lnR kd pl s.1 s.2.1).1)
noncomputable def rrun (kd pl : Nat → Nat) : Nat → RS
  | 0 => (0, 0, fun _ => l00, 0)
  | k + 1 => rstp kd pl (rrun kd pl k)
theorem rrun_t {kd pl : Nat → Nat} {k : Nat} (h : rtm kd (rrun kd pl k)) : ∀ j, rrun kd pl (k + j) = rrun kd pl k
  | 0 => rfl
  | j + 1 => by
    show rstp kd pl (rrun kd pl (k + j)) = _
    rw [rrun_t h j]
    exact if_pos h
theorem rrun_un {kd pl : Nat → Nat} {k j : Nat} (h : rtm kd (rrun kd pl k)) (h' : rtm kd (rrun kd pl j)) : rrun kd pl k = rrun kd pl j := by
  by_cases q : k ≤ j
  · obtain ⟨d, rfl⟩ : ∃ d, j = k + d := ⟨j - k, by omega⟩
    exact (rrun_t h d).symm
  · obtain ⟨d, rfl⟩ : ∃ d, k = j + d := ⟨k - j, by omega⟩
    exact rrun_t h' d
/-- the reference holds what is read so far -/
def MR (X : XW) (o n : Nat) (s : RS) : Prop := (s.2.2.2 = 0 ∧ xI X o 8 = 0 ∧ xI X o 7 = nI s.1 ∧ s.1 ≤ n ∧ s.2.1 ≤ 24 ∧ xA X (mA o 14) 4 = nI s.2.1 ∧ (∀ m, m < s.2.1 → okL (s.2.2.1 m)) ∧ ∃ cds, xI X o 21 = nI cds ∧ cds ≤ s.1 + 2 * s.2.1 ∧ ∀ m, m < s.2.1 → DLn X o cds m (s.2.2.1 m)) ∨ (0 < s.2.2.2 ∧ s.2.2.2 ≤ 16005 ∧ xI X o 8 = nI s.2.2.2)
section MRul
variable {X : XW} {o n : Nat} {kd pl : Nat → Nat}
theorem m_line (G : MG X o n kd pl) (hpl : ∀ j, j ≤ n → pl j ≤ 1000) {i N : Nat} {ls : Nat → Ln} (hi : i ≤ n) (hk : kd i ≠ 24) (hN : N ≤ 24) (h8 : xI X o 8 = 0) (h7 : xI X o 7 = nI i) (h14 : xA X (mA o 14) 4 = nI N) {cds : Nat} (h21 : xI X o 21 = nI cds) (hc : cds ≤ i + 2 * N) (hD : ∀ m, m < N → DLn X o cds m (ls m)) : ∃ X1, fX10_line o X = some X1 ∧ LFr X X1 o ∧ LOk X X1 o n N ls (lnR kd pl i N) i ∧ (N = 24 → 0 < (lnR kd pl i N).1) := by
  have L := G.1
  have hn := G.2.2.2.1
  have hkd := G.2.2.2.2.1
  have hkn := G.2.2.2.2.2
  have hin : i < n := by
    by_cases q : i = n
    · rw [q, hkn] at hk; exact absurd rfl hk
    · omega
  have w1 : fX10_isWord o 1 X = some (b01 (kd i = 14), X) := m_isWord G hi h7 h8 (w := 1) (by decide)
  have w0 : fX10_isWord o 0 X = some (b01 (kd i = 13), X) := m_isWord G hi h7 h8 (w := 0) (by decide)
  have hj42f : ∀ (x : Nat) (a : Int32), x = 1 ∨ x = 5 → fX10_line_j42 o a (wI X o 8 (nI (x + 16 * pl i))) = some (wI X o 8 (nI (x + 16 * pl i))) := fun x a hx => by
    have L1 : LM (wI X o 8 (nI (x + 16 * pl i))) o := L.mv (tr1 rfl)
    have := hpl i hi
    unfold fX10_line_j42
    rw [gI_M L1, sb, xI_we, if_neg (nI_nle (by omega) (by omega))]
  have fin : ∀ x : Nat, x = 1 ∨ x = 5 → fX10_line o X = some (wI X o 8 (nI (x + 16 * pl i))) → lnR kd pl i N = (x + 16 * pl i, 0, l00) → ∃ X1, fX10_line o X = some X1 ∧ LFr X X1 o ∧ LOk X X1 o n N ls (lnR kd pl i N) i ∧ (N = 24 → 0 < (lnR kd pl i N).1) := fun x hx h1 h2 => by
    refine ⟨_, h1, LFr.wI (by decide), Or.inl ?_, fun _ => ?_⟩
    · rw [h2]
      exact ⟨(lnR_b G hpl hi hx).1, (lnR_b G hpl hi hx).2, xI_we⟩
    · rw [h2]
      exact (lnR_b G hpl hi hx).1
  by_cases c1 : kd i = 13 ∨ kd i = 14
  rotate_left 1
  · have n13 : ¬ kd i = 13 := fun z => c1 (Or.inl z)
    have n14 : ¬ kd i = 14 := fun z => c1 (Or.inr z)
    have hwr : fX10_wrong o 1 X = some (wI X o 8 (nI (1 + 16 * pl i))) := m_wrong G (x := 1) hi h7 h8
    refine fin 1 (Or.inl rfl) ?_ (if_pos c1)
    unfold fX10_line
    rw [gK_M L, sb, w1, sb, b01_n n14]
    dsimp only
    rw [if_pos rfl, gK_M L, sb, w0, sb, b01_n n13]
    dsimp only
    rw [if_pos rfl, gK_M L, sb, hwr, sb, hj42f 1 _ (Or.inl rfl)]
  have h26 : fX10_line o X = fX10_line_j26 o (b01 (kd i = 14)) X := by
    unfold fX10_line
    rw [gK_M L, sb, w1, sb]
    dsimp only
    by_cases q : kd i = 14
    · rw [b01_y q, if_neg (by decide)]
    · rw [b01_n q, if_pos rfl, gK_M L, sb, w0, sb, b01_y (c1.resolve_right q)]
      dsimp only
      rw [if_neg (by decide)]
  have c4 : aI X (mA o 14) 1 4 = some (nI N) := by
    have := aM14 L (i := 4) (by decide)
    rw [h14] at this
    exact this
  by_cases c2 : N = 24
  · have hwr : fX10_wrong o 5 X = some (wI X o 8 (nI (5 + 16 * pl i))) := m_wrong G (x := 5) hi h7 h8
    refine fin 5 (Or.inr rfl) ?_ ((if_neg (fun z => z c1)).trans (if_pos c2))
    rw [h26]
    unfold fX10_line_j26
    rw [rM14 L, sb, c4, sb, c2, if_pos (by decide), gK_M L, sb, hwr, sb, hj42f 5 _ (Or.inr rfl)]
  have hN' : N < 24 := by omega
  have h42 : fX10_line o X = fX10_line_j42 o (b01 (kd i = 14)) X := by
    rw [h26]
    unfold fX10_line_j26
    rw [rM14 L, sb, c4, sb, if_neg (show ¬ nI N = (24 : Int32) from fun z => c2 ((nI_eq (b := 24) (by omega) (by decide)).mp z))]
  have eR : lnR kd pl i N = if ¬ kd (i + 1) ≤ 2 then (1 + 16 * pl (i + 1), 0, l00) else lnE kd pl (kd i) (kd (i + 1)) (tm kd pl (i + 2)) := (if_neg (fun z => z c1)).trans (if_neg c2)
  generalize hX1 : wI X o 7 (nI (i + 1)) = X1
  have F1 : LFr X X1 o := by rw [← hX1]; exact LFr.wI (by decide)
  have L1 := L.mf F1.1
  have c4' : aI X1 (mA o 14) 1 4 = some (nI N) := by
    have := aM14 L1 (i := 4) (by decide)
    rw [← hX1, xA_wI, h14] at this
    rw [← hX1]
    exact this
  generalize hX2 : wF X1 (mA o 15) (va_up (xA X1 (mA o 15)) (96 + N) (b01 (kd i = 14))) = X2
  have F2 : LFr X1 X2 o := by rw [← hX2]; exact LFr.wF (Or.inl ⟨by decide, by omega⟩)
  have L2 := L1.mf F2.1
  have G2 := (G.mf F1.1 KL_o).mf F2.1 KL_o
  have i27 : xI X2 o 7 = nI (i + 1) := by rw [← hX2, xI_wF, ← hX1, xI_we]
  have i28 : xI X2 o 8 = 0 := by rw [← hX2, xI_wF, ← hX1, xI_wn (by decide)]; exact h8
  have hpw := m_partWord G2 (show i + 1 ≤ n by omega) i27 i28
  have hd : fX10_line o X = (fX10_partWord o X2 >>= fun r17 => if (r17.1 < 0 : Prop) then (fX10_line_j91 o r17.2) else (if (r17.1 ≤ 2 : Prop) then (gR r17.2 o 10 16 >>= fun q19 => uI r17.2 q19 (nI (96 + N)) r17.1 >>= fun X21 => gI X21 o 10 7 >>= fun v23 => pI X21 o 10 7 (v23 + 1) >>= fun X25 => gR X25 o 10 17 >>= fun q27 => gI X25 o 10 21 >>= fun v29 => uI X25 q27 (nI (96 + N)) v29 >>= fun X31 => gK X31 o 10 >>= fun u33 => fX10_expression o X31 >>= fun X35 => gR X35 o 10 18 >>= fun q37 => uI X35 q37 (nI (96 + N)) (-1) >>= fun X39 => gK X39 o 10 >>= fun u41 => fX10_hasWord o 2 X39 >>= fun r43 => if (r43.1 = 0 : Prop) then (fX10_line_j157 o r43.2) else (gR r43.2 o 10 18 >>= fun q45 => gI r43.2 o 10 21 >>= fun v47 => uI r43.2 q45 (nI (96 + N)) v47 >>= fun X49 => gK X49 o 10 >>= fun u51 => fX10_expression o X49 >>= fun X53 => fX10_line_j157 o X53)) else (fX10_line_j91 o r17.2))) := by
    rw [h42]
    unfold fX10_line_j42
    rw [gI_M L, sb, h8, if_pos (by decide), gI_M L, sb, h7, nI_1, pI_M L, sb, hX1, rM14 L1, sb, c4', sb, rM15 L1, sb, show (96 : Int32) = nI 96 from rfl, nI_add, uM15 L1 (by omega) (b01_01 _), sb, hX2, gK_M L2, sb]
  by_cases c3 : kd (i + 1) ≤ 2
  rotate_left 1
  · rw [if_pos c3] at eR
    have hwr : fX10_wrong o 1 X2 = some (wI X2 o 8 (nI (1 + 16 * pl (i + 1)))) := m_wrong G2 (x := 1) (by omega) i27 i28
    have j91 : fX10_line_j91 o X2 = some (wI X2 o 8 (nI (1 + 16 * pl (i + 1)))) := by
      unfold fX10_line_j91
      rw [gK_M L2, sb, hwr, sb]
    refine ⟨wI X2 o 8 (nI (1 + 16 * pl (i + 1))), ?_, (F1.tr F2).tr (LFr.wI (k := 8) (by decide)), Or.inl ?_, fun z => absurd z c2⟩
    · rw [hd, hpw, sb]
      dsimp only
      by_cases q : kd (i + 1) ≤ 12
      · rw [if_pos q, if_neg (nI_pos (by omega)), if_neg (show ¬ nI (kd (i + 1)) ≤ (2 : Int32) from nI_ge (a := 2) (by omega) (by omega)), j91]
      · rw [if_neg q, if_pos (by decide), j91]
    · rw [eR]
      exact ⟨(lnR_b G hpl (show i + 1 ≤ n by omega) (Or.inl rfl)).1, (lnR_b G hpl (show i + 1 ≤ n by omega) (Or.inl rfl)).2, xI_we⟩
  rw [if_neg (fun z => z c3)] at eR
  have hin1 : i + 1 < n := by
    by_cases q : i + 1 = n
    · rw [q, hkn] at c3; exact absurd c3 (by decide)
    · omega
  generalize hX3 : wF X2 (mA o 16) (va_up (xA X2 (mA o 16)) (96 + N) (nI (kd (i + 1)))) = X3
  have F3 : LFr X2 X3 o := by rw [← hX3]; exact LFr.wF (Or.inl ⟨by decide, by omega⟩)
  have L3 := L2.mf F3.1
  have i37 : xI X3 o 7 = nI (i + 1) := by rw [← hX3]; exact i27
  generalize hX4 : wI X3 o 7 (nI (i + 1 + 1)) = X4
  have F4 : LFr X3 X4 o := by rw [← hX4]; exact LFr.wI (by decide)
  have L4 := L3.mf F4.1
  have i421 : xI X4 o 21 = nI cds := by rw [← hX4, xI_wn (by decide), ← hX3, xI_wF, ← hX2, xI_wF, ← hX1, xI_wn (by decide)]; exact h21
  generalize hX5 : wF X4 (mA o 17) (va_up (xA X4 (mA o 17)) (96 + N) (nI cds)) = X5
  have F5 : LFr X4 X5 o := by rw [← hX5]; exact LFr.wF (Or.inl ⟨by decide, by omega⟩)
  have L5 := L4.mf F5.1
  have FX5 : LFr X X5 o := (((F1.tr F2).tr F3).tr F4).tr F5
  have G5 := G.mf FX5.1 KL_o
  have a15 : xA X5 (mA o 15) = va_up (xA X (mA o 15)) (96 + N) (b01 (kd i = 14)) := by
    rw [← hX5, xA_wFm (by decide) (by decide) (by decide), ← hX4, xA_wI, ← hX3, xA_wFm (by decide) (by decide) (by decide), ← hX2, xA_wFe, ← hX1]; rfl
  have a16 : xA X5 (mA o 16) = va_up (xA X (mA o 16)) (96 + N) (nI (kd (i + 1))) := by
    rw [← hX5, xA_wFm (by decide) (by decide) (by decide), ← hX4, xA_wI, ← hX3, xA_wFe, ← hX2, xA_wFm (by decide) (by decide) (by decide), ← hX1]; rfl
  have a17 : xA X5 (mA o 17) = va_up (xA X (mA o 17)) (96 + N) (nI cds) := by
    rw [← hX5, xA_wFe, ← hX4, xA_wI, ← hX3, xA_wFm (by decide) (by decide) (by decide), ← hX2, xA_wFm (by decide) (by decide) (by decide), ← hX1]; rfl
  have ao : ∀ k, k ∈ [14, 18, 19, 20] → k < 57 → xA X5 (mA o k) = xA X (mA o k) := fun k hk h57 => by
    simp only [List.mem_cons, List.not_mem_nil, or_false] at hk
    rw [← hX5, xA_wFm h57 (by decide) (by omega), ← hX4, xA_wI, ← hX3, xA_wFm h57 (by decide) (by omega), ← hX2, xA_wFm h57 (by decide) (by omega), ← hX1]
    rfl
  obtain ⟨Y, S1, y1, LY, y2, X6, x1, x2, x3⟩ := m_lineE (a := kd i) (ls := ls) G5 hpl hN' (show i + 2 ≤ n by omega) (show kd (i + 1) < 3 by omega) (by rw [← hX5, xI_wF, ← hX4, xI_we]) (by rw [← hX5, xI_wF, ← hX4, xI_wn (by decide), ← hX3, xI_wF]; exact i28) (by rw [← hX5, xI_wF]; exact i421) hc (by rw [ao 14 (by decide) (by decide)]; exact h14) (fun m hm => (hD m hm).kp (fun j _ => by rw [ao 19 (by decide) (by decide), ao 20 (by decide) (by decide)]; exact ⟨rfl, rfl⟩) (Nat.le_refl _) (fun a ha => by
    simp only [List.mem_cons, List.not_mem_nil, or_false] at ha
    rcases ha with rfl | rfl | rfl | rfl
    · rw [a15, upN (by omega)]
    · rw [a16, upN (by omega)]
    · rw [a17, upN (by omega)]
    · rw [ao 18 (by decide) (by decide)])) (by rw [a15, upE]) (by rw [a16, upE]) (by rw [a17, upE])
  refine ⟨X6, ?_, FX5.tr x2, ?_, fun z => absurd z c2⟩
  · rw [hd, hpw, sb]
    dsimp only
    rw [if_pos (show kd (i + 1) ≤ 12 by omega), if_neg (nI_pos (by omega)), if_pos (show nI (kd (i + 1)) ≤ (2 : Int32) from nI_le (b := 2) c3 (by decide)), rM16 L2, sb, uM16 L2 (by omega), sb, hX3, gI_M L3, sb, i37, nI_1, pI_M L3, sb, hX4, rM17 L4, sb, gI_M L4, sb, i421, uM17 L4 (by omega), sb, hX5, gK_M L5, sb, y1, sb, rM18 LY, sb, x1]
  · rw [eR, y2]
    exact x3
theorem m_rulesL (G : MG X o n kd pl) (hpl : ∀ j, j ≤ n → pl j ≤ 1000) (h8 : xI X o 8 = 0) (h7 : xI X o 7 = nI 0) (h14 : xA X (mA o 14) 4 = nI 0) (h21 : xI X o 21 = nI 0) : ∃ X1 k, fX10_rules_l21 o FU X = some X1 ∧ LFr X X1 o ∧ rtm kd (rrun kd pl k) ∧ MR X1 o n (rrun kd pl k) := by
  have hn := G.2.2.2.1
  have key := iterP1 (b := fun rec => fX10_rules_l21_b rec o) (z := fun _ => none) (fun m Z => ∃ k, k ≤ 25 ∧ m = 26 - k ∧ LFr X Z o ∧ MR Z o n (rrun kd pl k) ∧ ((rrun kd pl k).2.2.2 = 0 → (rrun kd pl k).2.1 = k)) (fun Z => ∃ k, LFr X Z o ∧ rtm kd (rrun kd pl k) ∧ MR Z o n (rrun kd pl k)) ?_ FU 26 X (FUlt (by decide)) ⟨0, by decide, rfl, LFr.rf _ _, Or.inl ⟨rfl, h8, h7, Nat.zero_le _, Nat.zero_le _, h14, fun m hm => absurd hm (Nat.not_lt_zero _), 0, h21, Nat.le_refl _, fun m hm => absurd hm (Nat.not_lt_zero _)⟩, fun _ => rfl⟩
  · obtain ⟨Z, g1, k, g2, g3, g4⟩ := key
    exact ⟨Z, k, g1, g2, g3, g4⟩
  rintro m Z ⟨k, hk, rfl, F, M, hNk⟩
  have GZ := G.mf F.1 KL_o
  have LZ := GZ.1
  rcases M with ⟨f0, m8, m7, mi, mN, m14, mok, cds, m21, mc, mD⟩ | ⟨f0, f1, m8⟩
  · have hk' := hNk f0
    have htk := (GZ.2.1 (rrun kd pl k).1 (by omega)).1
    by_cases c : kd (rrun kd pl k).1 = 24
    · left
      refine ⟨Z, fun rec => ?_, k, F, Or.inr c, Or.inl ⟨f0, m8, m7, mi, mN, m14, mok, cds, m21, mc, mD⟩⟩
      show fX10_rules_l21_b rec o Z = _
      unfold fX10_rules_l21_b
      rw [gI_M LZ, sb, m8, if_pos rfl, rM4 LZ, sb, gI_M LZ, sb, m7, aM4 LZ (by omega), sb, if_pos (htk.2.2.2.2.mpr c)]
    · right
      obtain ⟨Z1, z1, z2, z3, z4⟩ := m_line GZ hpl mi c mN m8 m7 m14 m21 mc mD
      have hnt : ¬ rtm kd (rrun kd pl k) := fun z => z.elim (fun y => y f0) c
      have er : rrun kd pl (k + 1) = rstp kd pl (rrun kd pl k) := rfl
      have es : rstp kd pl (rrun kd pl k) = _ := if_neg hnt
      have hb : ∀ rec, fX10_rules_l21_b rec o Z = rec Z1 := fun rec => by
        unfold fX10_rules_l21_b
        rw [gI_M LZ, sb, m8, if_pos rfl, rM4 LZ, sb, gI_M LZ, sb, m7, aM4 LZ (by omega), sb, if_neg (fun z => c (htk.2.2.2.2.mp z)), gK_M LZ, sb, z1, sb]
      have hk25 : k ≤ 24 := by omega
      refine ⟨26 - (k + 1), Z1, by omega, ⟨k + 1, by omega, rfl, F.tr z2, ?_⟩, hb⟩
      rw [er, es]
      rcases z3 with ⟨a1, a2, a3⟩ | ⟨a1, a2, a3, a4, a5, a6, a7, cds', a8, a9, a10⟩
      · rw [if_neg (by omega)]
        exact ⟨Or.inr ⟨a1, a2, a3⟩, fun z => by
          have z' : (lnR kd pl (rrun kd pl k).1 (rrun kd pl k).2.1).1 = 0 := z
          omega⟩
      · rw [if_pos a1]
        refine ⟨Or.inl ⟨rfl, a2, a3, a5, ?_, a7, fun m hm => ?_, cds', a8, a9, a10⟩, fun _ => by show (rrun kd pl k).2.1 + 1 = k + 1; omega⟩
        · show (rrun kd pl k).2.1 + 1 ≤ 24
          by_cases q : (rrun kd pl k).2.1 = 24
          · have := z4 q
            omega
          · omega
        · show okL (if m = (rrun kd pl k).2.1 then (lnR kd pl (rrun kd pl k).1 (rrun kd pl k).2.1).2.2 else (rrun kd pl k).2.2.1 m)
          have hm' : m < (rrun kd pl k).2.1 + 1 := hm
          by_cases e : m = (rrun kd pl k).2.1
          · rw [if_pos e]; exact a6
          · rw [if_neg e]; exact mok m (by omega)
  · left
    refine ⟨Z, fun rec => ?_, k, F, Or.inl (by omega), Or.inr ⟨f0, f1, m8⟩⟩
    show fX10_rules_l21_b rec o Z = _
    unfold fX10_rules_l21_b
    rw [gI_M LZ, sb, m8, if_neg (nI_ne0 f0 (by omega))]
theorem m_kp2 (L : LM X o) {m : Nat} (hm : m < 4) (h10 : xI X o 10 = nI m) : ∃ X1, fX10_keeps_l2 o FU 0 X = some X1 ∧ mfm o [15, 16, 17, 18] X X1 ∧ (∀ a, a ∈ [15, 16, 17, 18] → ∀ j, j < 24 * m ∨ 24 * m + 24 ≤ j → xA X1 (mA o a) j = xA X (mA o a) j) ∧ ∀ j, j < 24 → xA X1 (mA o 15) (24 * m + j) = vp_nar .boolean (xA X (mA o 15) (96 + j)) ∧ xA X1 (mA o 16) (24 * m + j) = xA X (mA o 16) (96 + j) ∧ xA X1 (mA o 17) (24 * m + j) = xA X (mA o 17) (96 + j) ∧ xA X1 (mA o 18) (24 * m + j) = xA X (mA o 18) (96 + j) := by
  have key := iterP2 (b := fun rec => fX10_keeps_l2_b rec o) (z := fun _ _ => none) (fun q a Z => ∃ k, k ≤ 24 ∧ q = 24 - k ∧ a = nI k ∧ mfm o [15, 16, 17, 18] X Z ∧ (∀ a, a ∈ [15, 16, 17, 18] → ∀ j, j < 24 * m ∨ 24 * m + k ≤ j → xA Z (mA o a) j = xA X (mA o a) j) ∧ ∀ j, j < k → xA Z (mA o 15) (24 * m + j) = vp_nar .boolean (xA X (mA o 15) (96 + j)) ∧ xA Z (mA o 16) (24 * m + j) = xA X (mA o 16) (96 + j) ∧ xA Z (mA o 17) (24 * m + j) = xA X (mA o 17) (96 + j) ∧ xA Z (mA o 18) (24 * m + j) = xA X (mA o 18) (96 + j)) (fun X1 => mfm o [15, 16, 17, 18] X X1 ∧ (∀ a, a ∈ [15, 16, 17, 18] → ∀ j, j < 24 * m ∨ 24 * m + 24 ≤ j → xA X1 (mA o a) j = xA X (mA o a) j) ∧ ∀ j, j < 24 → xA X1 (mA o 15) (24 * m + j) = vp_nar .boolean (xA X (mA o 15) (96 + j)) ∧ xA X1 (mA o 16) (24 * m + j) = xA X (mA o 16) (96 + j) ∧ xA X1 (mA o 17) (24 * m + j) = xA X (mA o 17) (96 + j) ∧ xA X1 (mA o 18) (24 * m + j) = xA X (mA o 18) (96 + j)) ?_ FU 24 (nI 0) X (FUlt (by decide)) ⟨0, by decide, rfl, rfl, mfm.rf, fun _ _ _ _ => rfl, fun j hj => absurd hj (Nat.not_lt_zero _)⟩
  · exact key
  rintro q a Z ⟨k, hk, rfl, rfl, F, h1, h2⟩
  have LZ := L.mf F
  by_cases e : k = 24
  · left
    subst e
    refine ⟨Z, fun rec => ?_, F, h1, h2⟩
    unfold fX10_keeps_l2_b
    rw [if_pos (by decide)]
  · right
    have hk' : k < 24 := by omega
    have r : ∀ a, a ∈ [15, 16, 17, 18] → xA Z (mA o a) (96 + k) = xA X (mA o a) (96 + k) := fun a ha => h1 a ha _ (by omega)
    generalize hZ1 : wF Z (mA o 15) (va_up (xA Z (mA o 15)) (24 * m + k) (vp_nar .boolean (xA X (mA o 15) (96 + k)))) = Z1
    have F1 : mfm o [15, 16, 17, 18] Z Z1 := by rw [← hZ1]; exact mfm.wF (by decide) (by decide) (by decide)
    have L1 := LZ.mf F1
    generalize hZ2 : wF Z1 (mA o 16) (va_up (xA Z1 (mA o 16)) (24 * m + k) (xA X (mA o 16) (96 + k))) = Z2
    have F2 : mfm o [15, 16, 17, 18] Z1 Z2 := by rw [← hZ2]; exact mfm.wF (by decide) (by decide) (by decide)
    have L2 := L1.mf F2
    generalize hZ3 : wF Z2 (mA o 17) (va_up (xA Z2 (mA o 17)) (24 * m + k) (xA X (mA o 17) (96 + k))) = Z3
    have F3 : mfm o [15, 16, 17, 18] Z2 Z3 := by rw [← hZ3]; exact mfm.wF (by decide) (by decide) (by decide)
    have L3 := L2.mf F3
    generalize hZ4 : wF Z3 (mA o 18) (va_up (xA Z3 (mA o 18)) (24 * m + k) (xA X (mA o 18) (96 + k))) = Z4
    have F4 : mfm o [15, 16, 17, 18] Z3 Z4 := by rw [← hZ4]; exact mfm.wF (by decide) (by decide) (by decide)
    have b15 : xA Z4 (mA o 15) = va_up (xA Z (mA o 15)) (24 * m + k) (vp_nar .boolean (xA X (mA o 15) (96 + k))) := by rw [← hZ4, xA_wFm (by decide) (by decide) (by decide), ← hZ3, xA_wFm (by decide) (by decide) (by decide), ← hZ2, xA_wFm (by decide) (by decide) (by decide), ← hZ1, xA_wFe]
    have c16 : xA Z1 (mA o 16) = xA Z (mA o 16) := by rw [← hZ1, xA_wFm (by decide) (by decide) (by decide)]
    have b16 : xA Z4 (mA o 16) = va_up (xA Z (mA o 16)) (24 * m + k) (xA X (mA o 16) (96 + k)) := by rw [← hZ4, xA_wFm (by decide) (by decide) (by decide), ← hZ3, xA_wFm (by decide) (by decide) (by decide), ← hZ2, xA_wFe, c16]
    have c17 : xA Z2 (mA o 17) = xA Z (mA o 17) := by rw [← hZ2, xA_wFm (by decide) (by decide) (by decide), ← hZ1, xA_wFm (by decide) (by decide) (by decide)]
    have b17 : xA Z4 (mA o 17) = va_up (xA Z (mA o 17)) (24 * m + k) (xA X (mA o 17) (96 + k)) := by rw [← hZ4, xA_wFm (by decide) (by decide) (by decide), ← hZ3, xA_wFe, c17]
    have c18 : xA Z3 (mA o 18) = xA Z (mA o 18) := by rw [← hZ3, xA_wFm (by decide) (by decide) (by decide), ← hZ2, xA_wFm (by decide) (by decide) (by decide), ← hZ1, xA_wFm (by decide) (by decide) (by decide)]
    have b18 : xA Z4 (mA o 18) = va_up (xA Z (mA o 18)) (24 * m + k) (xA X (mA o 18) (96 + k)) := by rw [← hZ4, xA_wFe, c18]
    have i10 : ∀ {Q : XW}, mfm o [15, 16, 17, 18] X Q → xI Q o 10 = nI m := fun h => by rw [h.I (by decide)]; exact h10
    refine ⟨24 - (k + 1), nI (k + 1), Z4, by omega, ⟨k + 1, by omega, rfl, rfl, (((F.tr F1).tr F2).tr F3).tr F4, fun a ha j hj => ?_, fun j hj => ?_⟩, fun rec => ?_⟩
    · rw [← h1 a ha j (by omega)]
      simp only [List.mem_cons, List.not_mem_nil, or_false] at ha
      rcases ha with rfl | rfl | rfl | rfl
      · rw [b15, upN (by omega)]
      · rw [b16, upN (by omega)]
      · rw [b17, upN (by omega)]
      · rw [b18, upN (by omega)]
    · rw [b15, b16, b17, b18]
      by_cases z : j = k
      · subst z
        rw [upE, upE, upE, upE]
        exact ⟨rfl, rfl, rfl, rfl⟩
      · rw [upN (by omega), upN (by omega), upN (by omega), upN (by omega)]
        exact h2 j (by omega)
    · unfold fX10_keeps_l2_b
      rw [if_neg (show ¬ (24 : Int32) ≤ nI k from nI_ge (b := 24) hk' (by decide)), rM15 LZ, sb, gI_M LZ, sb, i10 F, sb, show (96 : Int32) = nI 96 from rfl, nI_add, aM15 LZ (by omega), sb, r 15 (by decide), Lt24, nI_mul, nI_add, uZ_M LZ _ (by decide) (by decide) (show 24 * m + k < 120 by omega), sb, hZ1, rM16 L1, sb, gI_M L1, sb, i10 (F.tr F1), sb, aM16 L1 (by omega), sb, c16, r 16 (by decide), nI_mul, nI_add, uM16 L1 (by omega), sb, hZ2, rM17 L2, sb, gI_M L2, sb, i10 ((F.tr F1).tr F2), sb, aM17 L2 (by omega), sb, c17, r 17 (by decide), nI_mul, nI_add, uM17 L2 (by omega), sb, hZ3, rM18 L3, sb, gI_M L3, sb, i10 (((F.tr F1).tr F2).tr F3), sb, aM18 L3 (by omega), sb, c18, r 18 (by decide), nI_mul, nI_add, uM18 L3 (by omega), sb, hZ4, nI_1]
theorem m_kp108 (L : LM X o) {m cds : Nat} (hm : m < 4) (h10 : xI X o 10 = nI m) (h21 : xI X o 21 = nI cds) (hc : cds ≤ 1060) : ∃ X1, fX10_keeps_l108 o FU 0 X = some X1 ∧ mfm o [19, 20] X X1 ∧ (∀ a, a ∈ [19, 20] → ∀ j, j < 1060 * m ∨ 1060 * m + cds ≤ j → xA X1 (mA o a) j = xA X (mA o a) j) ∧ ∀ j, j < cds → xA X1 (mA o 19) (1060 * m + j) = xA X (mA o 19) (4240 + j) ∧ xA X1 (mA o 20) (1060 * m + j) = xA X (mA o 20) (4240 + j) := by
  have key := iterP2 (b := fun rec => fX10_keeps_l108_b rec o) (z := fun _ _ => none) (fun q a Z => ∃ k, k ≤ cds ∧ q = cds - k ∧ a = nI k ∧ mfm o [19, 20] X Z ∧ (∀ a, a ∈ [19, 20] → ∀ j, j < 1060 * m ∨ 1060 * m + k ≤ j → xA Z (mA o a) j = xA X (mA o a) j) ∧ ∀ j, j < k → xA Z (mA o 19) (1060 * m + j) = xA X (mA o 19) (4240 + j) ∧ xA Z (mA o 20) (1060 * m + j) = xA X (mA o 20) (4240 + j)) (fun X1 => mfm o [19, 20] X X1 ∧ (∀ a, a ∈ [19, 20] → ∀ j, j < 1060 * m ∨ 1060 * m + cds ≤ j → xA X1 (mA o a) j = xA X (mA o a) j) ∧ ∀ j, j < cds → xA X1 (mA o 19) (1060 * m + j) = xA X (mA o 19) (4240 + j) ∧ xA X1 (mA o 20) (1060 * m + j) = xA X (mA o 20) (4240 + j)) ?_ FU cds (nI 0) X (FUlt (by omega)) ⟨0, Nat.zero_le _, rfl, rfl, mfm.rf, fun _ _ _ _ => rfl, fun j hj => absurd hj (Nat.not_lt_zero _)⟩
  · exact key
  rintro q a Z ⟨k, hk, rfl, rfl, F, h1, h2⟩
  have LZ := L.mf F
  have j21 : xI Z o 21 = nI cds := by rw [F.I (by decide)]; exact h21
  by_cases e : k = cds
  · left
    subst e
    refine ⟨Z, fun rec => ?_, F, h1, h2⟩
    unfold fX10_keeps_l108_b
    rw [gI_M LZ, sb, j21, if_pos (nI_le (Nat.le_refl _) (by omega))]
  · right
    have hk' : k < cds := by omega
    have r : ∀ a, a ∈ [19, 20] → xA Z (mA o a) (4240 + k) = xA X (mA o a) (4240 + k) := fun a ha => h1 a ha _ (by omega)
    generalize hZ1 : wF Z (mA o 19) (va_up (xA Z (mA o 19)) (1060 * m + k) (xA X (mA o 19) (4240 + k))) = Z1
    have F1 : mfm o [19, 20] Z Z1 := by rw [← hZ1]; exact mfm.wF (by decide) (by decide) (by decide)
    have L1 := LZ.mf F1
    generalize hZ2 : wF Z1 (mA o 20) (va_up (xA Z1 (mA o 20)) (1060 * m + k) (xA X (mA o 20) (4240 + k))) = Z2
    have F2 : mfm o [19, 20] Z1 Z2 := by rw [← hZ2]; exact mfm.wF (by decide) (by decide) (by decide)
    have c20 : xA Z1 (mA o 20) = xA Z (mA o 20) := by rw [← hZ1, xA_wFm (by decide) (by decide) (by decide)]
    have b19 : xA Z2 (mA o 19) = va_up (xA Z (mA o 19)) (1060 * m + k) (xA X (mA o 19) (4240 + k)) := by rw [← hZ2, xA_wFm (by decide) (by decide) (by decide), ← hZ1, xA_wFe]
    have b20 : xA Z2 (mA o 20) = va_up (xA Z (mA o 20)) (1060 * m + k) (xA X (mA o 20) (4240 + k)) := by rw [← hZ2, xA_wFe, c20]
    have i10 : ∀ {Q : XW}, mfm o [19, 20] X Q → xI Q o 10 = nI m := fun h => by rw [h.I (by decide)]; exact h10
    refine ⟨cds - (k + 1), nI (k + 1), Z2, by omega, ⟨k + 1, by omega, rfl, rfl, (F.tr F1).tr F2, fun a ha j hj => ?_, fun j hj => ?_⟩, fun rec => ?_⟩
    · rw [← h1 a ha j (by omega)]
      simp only [List.mem_cons, List.not_mem_nil, or_false] at ha
      rcases ha with rfl | rfl
      · rw [b19, upN (by omega)]
      · rw [b20, upN (by omega)]
    · rw [b19, b20]
      by_cases z : j = k
      · subst z
        rw [upE, upE]
        exact ⟨rfl, rfl⟩
      · rw [upN (by omega), upN (by omega)]
        exact h2 j (by omega)
    · unfold fX10_keeps_l108_b
      rw [gI_M LZ, sb, j21, if_neg (nI_ge hk' (by omega)), rM19 LZ, sb, gI_M LZ, sb, i10 F, sb, show (4240 : Int32) = nI 4240 from rfl, nI_add, aM19 LZ (by omega), sb, r 19 (by decide), Lt1060, nI_mul, nI_add, uM19 LZ (by omega), sb, hZ1, rM20 L1, sb, gI_M L1, sb, i10 (F.tr F1), sb, aM20 L1 (by omega), sb, c20, r 20 (by decide), nI_mul, nI_add, uM20 L1 (by omega), sb, hZ2, nI_1]
theorem MLn.lf {X1 : XW} {m n' : Nat} {l : Ln} (h : MLn X o m n' l) (F : LFr X X1 o) (hm : m < 4) (hn : n' < 24) : MLn X1 o m n' l := by
  obtain ⟨-, K, hA, -⟩ := F
  obtain ⟨h1, h2, ⟨b, h3, h4, h5⟩, h6, h7⟩ := h
  have hx : ∀ b (E : Ex), b + E.1 < 1060 → MEx X o (1060 * m + b) E → MEx X1 o (1060 * m + b) E := fun b E hb hE => by
    refine ⟨fun j hj => ?_, ?_⟩
    · rw [(K (1060 * m + b + j) (by omega)).1, (K (1060 * m + b + j) (by omega)).2]
      exact hE.1 j hj
    · rw [(K (1060 * m + b + E.1) (by omega)).1]
      exact hE.2
  refine ⟨(hA 15 (by decide) _ (by omega)).trans h1, (hA 16 (by decide) _ (by omega)).trans h2, ⟨b, (hA 17 (by decide) _ (by omega)).trans h3, h4, hx b _ h4 h5⟩, fun z => (hA 18 (by decide) _ (by omega)).trans (h6 z), fun z => ?_⟩
  obtain ⟨c, g1, g2, g3⟩ := h7 z
  exact ⟨c, (hA 18 (by decide) _ (by omega)).trans g1, g2, hx c _ g2 g3⟩
theorem MRu.lf {X1 : XW} {m N : Nat} {ls : Nat → Ln} (h : MRu X o m N ls) (F : LFr X X1 o) (hm : m < 4) : MRu X1 o m N ls := by
  have hN := h.2.1
  exact ⟨(F.2.2.2 m hm).trans h.1, h.2.1, fun n hn => (h.2.2 n hn).lf F hm (by omega)⟩
theorem m_keeps (L : LM X o) {m N cds : Nat} {ls : Nat → Ln} (hm : m < 4) (h10 : xI X o 10 = nI m) (h21 : xI X o 21 = nI cds) (hc : cds ≤ 1060) (hN : N ≤ 24) (h14 : xA X (mA o 14) 4 = nI N) (hok : ∀ n, n < N → okL (ls n)) (hD : ∀ n, n < N → DLn X o cds n (ls n)) : ∃ X1, fX10_keeps o X = some X1 ∧ mfm o [14, 15, 16, 17, 18, 19, 20] X X1 ∧ MRu X1 o m N ls ∧ ∀ m' N' ls', m' < 4 → m' ≠ m → MRu X o m' N' ls' → MRu X1 o m' N' ls' := by
  obtain ⟨Y, y1, y2, y3, y4⟩ := m_kp2 L hm h10
  have LY := L.mf y2
  obtain ⟨Z, z1, z2, z3, z4⟩ := m_kp108 LY hm (by rw [y2.I (by decide)]; exact h10) (by rw [y2.I (by decide)]; exact h21) hc
  have LZ := LY.mf z2
  have c4 : aI Z (mA o 14) 1 4 = some (nI N) := by
    have := aM14 LZ (i := 4) (by decide)
    rw [z2.A (k := 14) (by decide) (by decide) (by decide), y2.A (k := 14) (by decide) (by decide) (by decide), h14] at this
    exact this
  have i10 : xI Z o 10 = nI m := by rw [z2.I (by decide), y2.I (by decide)]; exact h10
  generalize hV : wF Z (mA o 14) (va_up (xA Z (mA o 14)) m (nI N)) = V
  have FV : mfm o [14, 15, 16, 17, 18, 19, 20] Z V := by rw [← hV]; exact mfm.wF (by decide) (by decide) (by decide)
  have eV : ∀ k, k ∈ [15, 16, 17, 18, 19, 20] → k < 57 → xA V (mA o k) = xA Z (mA o k) := fun k hk h57 => by
    rw [← hV, xA_wFm h57 (by decide) (fun e => by rw [e] at hk; exact absurd hk (by decide))]
  have eL : ∀ k, k ∈ [15, 16, 17, 18] → k < 57 → xA V (mA o k) = xA Y (mA o k) := fun k hk h57 => by
    rw [eV k (by simp only [List.mem_cons, List.not_mem_nil, or_false] at hk ⊢; omega) h57]
    simp only [List.mem_cons, List.not_mem_nil, or_false] at hk
    rcases hk with rfl | rfl | rfl | rfl <;> exact z2.A (by decide) (by decide) (by decide)
  have eY : ∀ k, k ∈ [19, 20] → xA Y (mA o k) = xA X (mA o k) := fun k hk => by
    simp only [List.mem_cons, List.not_mem_nil, or_false] at hk
    rcases hk with rfl | rfl <;> exact y2.A (by decide) (by decide) (by decide)
  refine ⟨V, ?_, ((y2.wk (by decide)).tr (z2.wk (by decide))).tr FV, ⟨by rw [← hV, xA_wFe, upE], hN, fun n hn => ?_⟩, fun m' N' ls' hm' hne h => ⟨?_, h.2.1, fun n hn => ?_⟩⟩
  · unfold fX10_keeps
    rw [y1, sb, z1, sb, rM14 LZ, sb, gI_M LZ, sb, i10, sb, c4, sb, uM14 LZ (by omega), sb, hV]
  · obtain ⟨h1, h2, ⟨b, h3, h4, h5⟩, h6, h7⟩ := hD n hn
    obtain ⟨g1, g2, g3, g4⟩ := y4 n (by omega)
    have hx : ∀ b (E : Ex), b + E.1 < cds → MEx X o (4240 + b) E → MEx V o (1060 * m + b) E := fun b E hb hE => by
      refine ⟨fun j hj => ?_, ?_⟩
      · rw [eV 19 (by decide) (by decide), eV 20 (by decide) (by decide), Nat.add_assoc, (z4 (b + j) (by omega)).1, (z4 (b + j) (by omega)).2, eY 19 (by decide), eY 20 (by decide), ← Nat.add_assoc]
        exact hE.1 j hj
      · rw [eV 19 (by decide) (by decide), Nat.add_assoc, (z4 (b + E.1) (by omega)).1, eY 19 (by decide), ← Nat.add_assoc]
        exact hE.2
    refine ⟨?_, ?_, ⟨b, ?_, by omega, hx b _ h4 h5⟩, fun z => ?_, fun z => ?_⟩
    · rw [eL 15 (by decide) (by decide), g1, h1, nar1 (hok n hn).1]
    · rw [eL 16 (by decide) (by decide), g2, h2]
    · rw [eL 17 (by decide) (by decide), g3, h3]
    · rw [eL 18 (by decide) (by decide), g4, h6 z]
    · obtain ⟨c, c1, c2, c3⟩ := h7 z
      exact ⟨c, by rw [eL 18 (by decide) (by decide), g4, c1], by omega, hx c _ c2 c3⟩
  · rw [← hV, xA_wFe, upN hne, z2.A (k := 14) (by decide) (by decide) (by decide), y2.A (k := 14) (by decide) (by decide) (by decide)]
    exact h.1
  · have hN' := h.2.1
    obtain ⟨h1, h2, ⟨b, h3, h4, h5⟩, h6, h7⟩ := h.2.2 n hn
    have hx : ∀ b (E : Ex), b + E.1 < 1060 → MEx X o (1060 * m' + b) E → MEx V o (1060 * m' + b) E := fun b E hb hE => by
      refine ⟨fun j hj => ?_, ?_⟩
      · rw [eV 19 (by decide) (by decide), eV 20 (by decide) (by decide), z3 19 (by decide) _ (by omega), z3 20 (by decide) _ (by omega), eY 19 (by decide), eY 20 (by decide)]
        exact hE.1 j hj
      · rw [eV 19 (by decide) (by decide), z3 19 (by decide) _ (by omega), eY 19 (by decide)]
        exact hE.2
    refine ⟨?_, ?_, ⟨b, ?_, h4, hx b _ h4 h5⟩, fun z => ?_, fun z => ?_⟩
    · rw [eL 15 (by decide) (by decide), y3 15 (by decide) _ (by omega)]; exact h1
    · rw [eL 16 (by decide) (by decide), y3 16 (by decide) _ (by omega)]; exact h2
    · rw [eL 17 (by decide) (by decide), y3 17 (by decide) _ (by omega)]; exact h3
    · rw [eL 18 (by decide) (by decide), y3 18 (by decide) _ (by omega)]; exact h6 z
    · obtain ⟨c, c1, c2, c3⟩ := h7 z
      exact ⟨c, by rw [eL 18 (by decide) (by decide), y3 18 (by decide) _ (by omega)]; exact c1, c2, hx c _ c2 c3⟩
end MRul
