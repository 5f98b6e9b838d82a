/-! the reference: behind a part, a part, an expression -/
section MEx3
variable {X : XW} {o n : Nat} {kd pl : Nat → Nat}
theorem ai_b {i0 b : Nat} {S : AS} (A : AI kd n i0 S) (hb : b ≤ i0 + 48) (hn : n ≤ 1000) : b + S.2.2.2.2.1 < 1060 := by
  obtain ⟨h1, h2, h3, -⟩ := A
  omega
/-- a wait is set, one token on -/
theorem m_wait (L : LM X o) {b i m : Nat} {s g a x : Nat} {τ : List Wt} {E : Ex} (M : MA X o b (m, i, 0, (s, g, a) :: τ, E)) (hm : m ≠ 2 ∧ m ≠ 3) (hl : τ.length ≤ 4) {j : Nat} (hj : j = 23 ∨ j = 24 ∨ j = 25) (y : Wt) (hy : y = (if j = 23 then (x, g, a) else if j = 24 then (s, x, a) else (s, g, x))) : ∃ Z, Z = wF X (mA o j) (va_up (xA X (mA o j)) τ.length (nI x)) ∧ LM Z o ∧ xI Z o 7 = nI i ∧ MA (wI Z o 7 (nI (i + 1))) o b (0, i + 1, 0, y :: τ, E) ∧ mfm o KG X (wI Z o 7 (nI (i + 1))) ∧ Kp X (wI Z o 7 (nI (i + 1))) o b := by
  obtain ⟨m7, m8, mc, mw⟩ := M
  obtain ⟨m22, w1, w2, w3, w4⟩ := mw hm.1 hm.2
  have m22 : xI X o 22 = nI τ.length := m22
  have m7 : xI X o 7 = nI i := m7
  have hj' : j ∈ [23, 24, 25] ∧ j < 57 ∧ tMt.getD j 0 ≠ 0 := by
    rcases hj with rfl | rfl | rfl <;> decide
  generalize hZ1 : wF X (mA o j) (va_up (xA X (mA o j)) τ.length (nI x)) = Z1
  obtain ⟨p1, p2, p3, p4⟩ := m_put23 (X := X) (o := o) (i := τ.length) (w := x) (j := j) hj'.1 hj'.2.1 hj'.2.2 hZ1.symm
  have pI' : xI Z1 o = xI X o := by rw [← hZ1]; rfl
  have pA : xA Z1 (mA o 19) = xA X (mA o 19) ∧ xA Z1 (mA o 20) = xA X (mA o 20) := by
    rw [← hZ1]
    rcases hj with rfl | rfl | rfl <;> exact ⟨xA_wFm (by decide) (by decide) (by decide), xA_wFm (by decide) (by decide) (by decide)⟩
  refine ⟨Z1, rfl, L.mf p1, by rw [pI']; exact m7, ⟨xI_we, ?_, ?_, fun _ _ => ⟨?_, ?_⟩⟩, p1.tr (mfm.wI (by decide)), fun k hk => ?_⟩
  · rw [xI_wn (by decide), pI']; exact m8
  · unfold MC
    rw [xI_wn (by decide), xA_wI, pI', pA.1, pA.2]
    exact mc
  · rw [xI_wn (by decide), pI']; exact m22
  · have ht : MW (wI Z1 o 7 (nI (i + 1))) o τ := MW.up (X := X) (d := τ.length) (fun k hk => by rw [xA_wI]; exact p4 23 (by decide) (by decide) k hk) (fun k hk => by rw [xA_wI]; exact p4 24 (by decide) (by decide) k hk) (fun k hk => by rw [xA_wI]; exact p4 25 (by decide) (by decide) k hk) (Nat.le_refl _) w4
    subst hy
    rcases hj with rfl | rfl | rfl
    · refine ⟨p2, ?_, ?_, ht⟩
      · rw [xA_wI, p3 24 (by decide) (by decide) (by decide)]; exact w2
      · rw [xA_wI, p3 25 (by decide) (by decide) (by decide)]; exact w3
    · refine ⟨?_, p2, ?_, ht⟩
      · rw [xA_wI, p3 23 (by decide) (by decide) (by decide)]; exact w1
      · rw [xA_wI, p3 25 (by decide) (by decide) (by decide)]; exact w3
    · refine ⟨?_, ?_, p2, ht⟩
      · rw [xA_wI, p3 23 (by decide) (by decide) (by decide)]; exact w1
      · rw [xA_wI, p3 24 (by decide) (by decide) (by decide)]; exact w2
  · rw [xA_wI, pA.1, pA.2]
    exact ⟨rfl, rfl⟩
theorem m_j189 (G : MG X o n kd pl) (hpl : ∀ j, j ≤ n → pl j ≤ 1000) {b i i0 a : Nat} {τ : List Wt} {E : Ex} (hb : b ≤ i0 + 48) (A : AI kd n i0 (5, i, 0, (0, 0, a) :: τ, E)) (M : MA X o b (5, i, 0, (0, 0, a) :: τ, E)) : OUT X o b (τ.length + 1) kd pl (5, i, 0, (0, 0, a) :: τ, E) (fun rec => fX10_goesOnBehind_j189 rec o X) := by
  have L := G.1
  have hn := G.2.2.2.1
  have hbE := ai_b A hb hn
  obtain ⟨A1, A2, A3, A4, A5, A6, A7, A8, A9, A10, A11, A12, A13, A14⟩ := A
  have hl : τ.length + 1 ≤ 5 := A14 (Or.inr (Or.inr (Or.inl rfl)))
  have hi : i ≤ n := A2
  have hw : a = 0 ∨ a = 7 := (A5 (0, 0, a) List.mem_cons_self).2.2
  obtain ⟨m22, w1, w2, w3, w4⟩ := M.2.2.2 (show 5 ≠ 2 by decide) (show 5 ≠ 3 by decide)
  have d22 : xI X o 22 = nI τ.length := m22
  by_cases c1 : a = 0
  · subst c1
    refine (m_j218 G hpl M hi (by omega)).pre (Rch.rf _) rfl (fun rec => ?_)
    show fX10_goesOnBehind_j189 rec o X = fX10_goesOnBehind_j218 rec o X
    unfold fX10_goesOnBehind_j189
    rw [rM25 L, sb, gI_M L, sb, d22, aM25 L (by omega), sb, w3, if_pos nI_0]
  · have e7 : a = 7 := hw.resolve_left c1
    subst e7
    have s5 : stp kd pl (5, i, 0, (0, 0, 7) :: τ, E) = (5, i, 0, (0, 0, 0) :: τ, psh E (7, 0)) := rfl
    obtain ⟨Z, Z1, z1, LZ, z22, hZ1, MZ, FZ, KZ⟩ := m_flush L M (m' := 5) (by decide) (by decide) hbE (by omega) (j := 25) (x := 7) (Or.inr (Or.inr ⟨rfl, rfl⟩)) (0, 0, 0) rfl
    have G1 := G.mf FZ KG_o
    refine ((m_j218 G1 hpl MZ hi (by omega)).base FZ KZ).pre (Rch.st s5) rfl (fun rec => ?_)
    show fX10_goesOnBehind_j189 rec o X = fX10_goesOnBehind_j218 rec o Z1
    unfold fX10_goesOnBehind_j189
    rw [rM25 L, sb, gI_M L, sb, d22, aM25 L (by omega), sb, w3, if_neg (by decide), gK_M L, sb, show fX10_emit o 7 0 X = some Z from z1, sb, rM25 LZ, sb, gI_M LZ, sb, z22, show (0 : Int32) = nI 0 from rfl, uM25 LZ (by omega), sb, ← hZ1]
theorem m_j43 (G : MG X o n kd pl) (hpl : ∀ j, j ≤ n → pl j ≤ 1000) {b i i0 g a : Nat} {τ : List Wt} {E : Ex} (hb : b ≤ i0 + 48) (A : AI kd n i0 (1, i, 0, (0, g, a) :: τ, E)) (M : MA X o b (1, i, 0, (0, g, a) :: τ, E)) : OUT X o b (τ.length + 1) kd pl (1, i, 0, (0, g, a) :: τ, E) (fun rec => fX10_goesOnBehind_j43 rec o X) := by
  have L := G.1
  have hn := G.2.2.2.1
  have hkd := G.2.2.2.2.1
  have hkn := G.2.2.2.2.2
  have hbE := ai_b A hb hn
  have A' := A
  obtain ⟨A1, A2, A3, A4, A5, A6, A7, A8, A9, A10, A11, A12, A13, A14⟩ := A
  have hl : τ.length + 1 ≤ 5 := A14 (Or.inl rfl)
  have hi : i ≤ n := A2
  have hw : g = 0 ∨ g = 5 ∨ g = 6 := (A5 (0, g, a) List.mem_cons_self).2.1
  obtain ⟨m22, w1, w2, w3, w4⟩ := M.2.2.2 (show 1 ≠ 2 by decide) (show 1 ≠ 3 by decide)
  have d22 : xI X o 22 = nI τ.length := m22
  have m7 : xI X o 7 = nI i := M.1
  have m8 : xI X o 8 = 0 := M.2.1
  have h43 : fX10_isSign o 43 X = some (b01 (kd i = 21), X) := m_isSign G hi m7 m8 (s := 4) (by decide)
  have h45 : fX10_isSign o 45 X = some (b01 (kd i = 22), X) := m_isSign G hi m7 m8 (s := 5) (by decide)
  have h60 : fX10_isSign o 60 X = some (b01 (kd i = 19), X) := m_isSign G hi m7 m8 (s := 2) (by decide)
  have h61 : fX10_isSign o 61 X = some (b01 (kd i = 20), X) := m_isSign G hi m7 m8 (s := 3) (by decide)
  have s1 : stp kd pl (1, i, 0, (0, g, a) :: τ, E) = if kd i = 21 then (0, i + 1, 0, (3, g, a) :: τ, E) else if kd i = 22 then (0, i + 1, 0, (4, g, a) :: τ, E) else (4, i, 0, (0, g, a) :: τ, E) := rfl
  have hj61 : ∀ x : Nat, (if b01 (kd i = 21) = 0 then (4 : Int32) else 3) = nI x → ∃ Z, fX10_goesOnBehind_j61 o X = some (1, wI Z o 7 (nI (i + 1))) ∧ MA (wI Z o 7 (nI (i + 1))) o b (0, i + 1, 0, (x, g, a) :: τ, E) ∧ mfm o KG X (wI Z o 7 (nI (i + 1))) ∧ Kp X (wI Z o 7 (nI (i + 1))) o b := fun x hx => by
    obtain ⟨Z, hZ, LZ, z7, MZ, FZ, KZ⟩ := m_wait L M (x := x) (by decide) (by omega) (j := 23) (Or.inl rfl) (x, g, a) rfl
    refine ⟨Z, ?_, MZ, FZ, KZ⟩
    unfold fX10_goesOnBehind_j61 fX10_goesOnBehind_j83
    rw [rM23 L, sb, gI_M L, sb, d22, gK_M L, sb, h43, sb]
    dsimp only
    by_cases q : b01 (kd i = 21) = 0
    · rw [if_pos q] at hx
      rw [if_pos q, hx, uM23 L (by omega), sb, ← hZ, gI_M LZ, sb, z7, nI_1, pI_M LZ, sb]
    · rw [if_neg q] at hx
      rw [if_neg q, hx, uM23 L (by omega), sb, ← hZ, gI_M LZ, sb, z7, nI_1, pI_M LZ, sb]
  by_cases c1 : kd i = 21
  · rw [if_pos c1] at s1
    obtain ⟨Z, g1, g2, g3, g4⟩ := hj61 3 (by rw [b01_y c1]; rfl)
    refine Or.inl ⟨_, _, fun rec => ?_, Rch.st s1, rfl, rfl, g2, g3, g4⟩
    show fX10_goesOnBehind_j43 rec o X = _
    unfold fX10_goesOnBehind_j43
    rw [gK_M L, sb, h43, sb, b01_y c1]
    dsimp only
    rw [if_neg (by decide), g1]
  rw [if_neg c1] at s1
  by_cases c2 : kd i = 22
  · rw [if_pos c2] at s1
    obtain ⟨Z, g1, g2, g3, g4⟩ := hj61 4 (by rw [b01_n c1]; rfl)
    refine Or.inl ⟨_, _, fun rec => ?_, Rch.st s1, rfl, rfl, g2, g3, g4⟩
    show fX10_goesOnBehind_j43 rec o X = _
    unfold fX10_goesOnBehind_j43
    rw [gK_M L, sb, h43, sb, b01_n c1]
    dsimp only
    rw [if_pos rfl, gK_M L, sb, h45, sb, b01_y c2]
    dsimp only
    rw [if_neg (by decide), g1]
  rw [if_neg c2] at s1
  have hd : ∀ rec, fX10_goesOnBehind_j43 rec o X = (if nI g = 0 then (fX10_isSign o 60 X >>= fun r17 => if (r17.1 = 0 : Prop) then (gK r17.2 o 10 >>= fun u19 => fX10_isSign o 61 r17.2 >>= fun r21 => if (r21.1 = 0 : Prop) then (fX10_goesOnBehind_j189 rec o r21.2) else (fX10_goesOnBehind_j153 o r21.2)) else (fX10_goesOnBehind_j153 o r17.2)) else (fX10_emit o (nI g) 0 X >>= fun X31 => gR X31 o 10 24 >>= fun q33 => gI X31 o 10 22 >>= fun v35 => uI X31 q33 v35 0 >>= fun X37 => fX10_goesOnBehind_j189 rec o X37)) := fun rec => by
    unfold fX10_goesOnBehind_j43
    rw [gK_M L, sb, h43, sb, b01_n c1]
    dsimp only
    rw [if_pos rfl, gK_M L, sb, h45, sb, b01_n c2]
    dsimp only
    rw [if_pos rfl, rM24 L, sb, gI_M L, sb, d22, aM24 L (by omega), sb, w2, gK_M L, sb, sb, sb, aM24 L (by omega), sb, w2, sb]
  have s4 : stp kd pl (4, i, 0, (0, g, a) :: τ, E) = if ¬ g = 0 then (5, i, 0, (0, 0, a) :: τ, psh E (g, 0)) else if kd i = 19 then (0, i + 1, 0, (0, 5, a) :: τ, E) else if kd i = 20 then (0, i + 1, 0, (0, 6, a) :: τ, E) else (5, i, 0, (0, g, a) :: τ, E) := rfl
  have A4' : AI kd n i0 (4, i, 0, (0, g, a) :: τ, E) := A'.rc hkd hkn (Rch.st s1)
  by_cases c3 : g = 0
  · subst c3
    rw [if_neg (fun z => z rfl)] at s4
    have hj153 : ∀ x : Nat, (if b01 (kd i = 19) = 0 then (6 : Int32) else 5) = nI x → ∃ Z, fX10_goesOnBehind_j153 o X = some (1, wI Z o 7 (nI (i + 1))) ∧ MA (wI Z o 7 (nI (i + 1))) o b (0, i + 1, 0, (0, x, a) :: τ, E) ∧ mfm o KG X (wI Z o 7 (nI (i + 1))) ∧ Kp X (wI Z o 7 (nI (i + 1))) o b := fun x hx => by
      obtain ⟨Z, hZ, LZ, z7, MZ, FZ, KZ⟩ := m_wait L M (x := x) (by decide) (by omega) (j := 24) (Or.inr (Or.inl rfl)) (0, x, a) rfl
      refine ⟨Z, ?_, MZ, FZ, KZ⟩
      unfold fX10_goesOnBehind_j153 fX10_goesOnBehind_j176
      rw [rM24 L, sb, gI_M L, sb, d22, gK_M L, sb, h60, sb]
      dsimp only
      by_cases q : b01 (kd i = 19) = 0
      · rw [if_pos q] at hx
        rw [if_pos q, hx, uM24 L (by omega), sb, ← hZ, gI_M LZ, sb, z7, nI_1, pI_M LZ, sb]
      · rw [if_neg q] at hx
        rw [if_neg q, hx, uM24 L (by omega), sb, ← hZ, gI_M LZ, sb, z7, nI_1, pI_M LZ, sb]
    by_cases c4 : kd i = 19
    · rw [if_pos c4] at s4
      obtain ⟨Z, g1, g2, g3, g4⟩ := hj153 5 (by rw [b01_y c4]; rfl)
      refine Or.inl ⟨_, _, fun rec => ?_, (Rch.st s1).tr (Rch.st s4), rfl, rfl, g2, g3, g4⟩
      show fX10_goesOnBehind_j43 rec o X = _
      rw [hd, if_pos nI_0, h60, sb, b01_y c4]
      dsimp only
      rw [if_neg (by decide), g1]
    rw [if_neg c4] at s4
    by_cases c5 : kd i = 20
    · rw [if_pos c5] at s4
      obtain ⟨Z, g1, g2, g3, g4⟩ := hj153 6 (by rw [b01_n c4]; rfl)
      refine Or.inl ⟨_, _, fun rec => ?_, (Rch.st s1).tr (Rch.st s4), rfl, rfl, g2, g3, g4⟩
      show fX10_goesOnBehind_j43 rec o X = _
      rw [hd, if_pos nI_0, h60, sb, b01_n c4]
      dsimp only
      rw [if_pos rfl, gK_M L, sb, h61, sb, b01_y c5]
      dsimp only
      rw [if_neg (by decide), g1]
    rw [if_neg c5] at s4
    have A5' : AI kd n i0 (5, i, 0, (0, 0, a) :: τ, E) := A4'.rc hkd hkn (Rch.st s4)
    refine (m_j189 G hpl hb A5' ⟨M.1, M.2.1, M.2.2.1, fun _ _ => ⟨d22, w1, w2, w3, w4⟩⟩).pre ((Rch.st s1).tr (Rch.st s4)) rfl (fun rec => ?_)
    show fX10_goesOnBehind_j43 rec o X = fX10_goesOnBehind_j189 rec o X
    rw [hd, if_pos nI_0, h60, sb, b01_n c4]
    dsimp only
    rw [if_pos rfl, gK_M L, sb, h61, sb, b01_n c5]
    dsimp only
    rw [if_pos rfl]
  · rw [if_pos c3] at s4
    obtain ⟨Z, Z1, z1, LZ, z22, hZ1, MZ, FZ, KZ⟩ := m_flush L M (m' := 5) (by decide) (by decide) hbE (by omega) (j := 24) (x := g) (Or.inr (Or.inl ⟨rfl, rfl⟩)) (0, 0, a) rfl
    have A5' : AI kd n i0 (5, i, 0, (0, 0, a) :: τ, psh E (g, 0)) := A4'.rc hkd hkn (Rch.st s4)
    refine ((m_j189 (G.mf FZ KG_o) hpl hb A5' MZ).base FZ KZ).pre ((Rch.st s1).tr (Rch.st s4)) rfl (fun rec => ?_)
    show fX10_goesOnBehind_j43 rec o X = fX10_goesOnBehind_j189 rec o Z1
    rw [hd, if_neg (nI_ne0 (by omega) (by omega)), show fX10_emit o (nI g) 0 X = some Z from z1, sb, rM24 LZ, sb, gI_M LZ, sb, z22, show (0 : Int32) = nI 0 from rfl, uM24 LZ (by omega), sb, ← hZ1]
theorem m_l0 (G : MG X o n kd pl) (hpl : ∀ j, j ≤ n → pl j ≤ 1000) {b i i0 s g a : Nat} {τ : List Wt} {E : Ex} (hb : b ≤ i0 + 48) (A : AI kd n i0 (1, i, 0, (s, g, a) :: τ, E)) (M : MA X o b (1, i, 0, (s, g, a) :: τ, E)) : OUT X o b (τ.length + 1) kd pl (1, i, 0, (s, g, a) :: τ, E) (fun rec => fX10_goesOnBehind_l0_b rec o X) := by
  have L := G.1
  have hn := G.2.2.2.1
  have hkd := G.2.2.2.2.1
  have hkn := G.2.2.2.2.2
  have hbE := ai_b A hb hn
  have A' := A
  obtain ⟨A1, A2, A3, A4, A5, A6, A7, A8, A9, A10, A11, A12, A13, A14⟩ := A
  have hl : τ.length + 1 ≤ 5 := A14 (Or.inl rfl)
  have hw : s = 0 ∨ s = 3 ∨ s = 4 := (A5 (s, g, a) List.mem_cons_self).1
  obtain ⟨m22, w1, w2, w3, w4⟩ := M.2.2.2 (show 1 ≠ 2 by decide) (show 1 ≠ 3 by decide)
  have d22 : xI X o 22 = nI τ.length := m22
  have m8 : xI X o 8 = 0 := M.2.1
  by_cases c1 : s = 0
  · subst c1
    refine (m_j43 G hpl hb A' M).pre (Rch.rf _) rfl (fun rec => ?_)
    show fX10_goesOnBehind_l0_b rec o X = fX10_goesOnBehind_j43 rec o X
    unfold fX10_goesOnBehind_l0_b
    rw [gI_M L, sb, m8, if_pos rfl, rM23 L, sb, gI_M L, sb, d22, aM23 L (by omega), sb, w1, if_pos nI_0]
  · have s1 : stp kd pl (1, i, 0, (s, g, a) :: τ, E) = (1, i, 0, (0, g, a) :: τ, psh E (s, 0)) := (show stp kd pl (1, i, 0, (s, g, a) :: τ, E) = (if ¬ s = 0 then (1, i, 0, (0, g, a) :: τ, psh E (s, 0)) else if kd i = 21 then (0, i + 1, 0, (3, g, a) :: τ, E) else if kd i = 22 then (0, i + 1, 0, (4, g, a) :: τ, E) else (4, i, 0, (s, g, a) :: τ, E)) from rfl).trans (if_pos c1)
    obtain ⟨Z, Z1, z1, LZ, z22, hZ1, MZ, FZ, KZ⟩ := m_flush L M (m' := 1) (by decide) (by decide) hbE (by omega) (j := 23) (x := s) (Or.inl ⟨rfl, rfl⟩) (0, g, a) rfl
    have A1' : AI kd n i0 (1, i, 0, (0, g, a) :: τ, psh E (s, 0)) := A'.rc hkd hkn (Rch.st s1)
    refine ((m_j43 (G.mf FZ KG_o) hpl hb A1' MZ).base FZ KZ).pre (Rch.st s1) rfl (fun rec => ?_)
    show fX10_goesOnBehind_l0_b rec o X = fX10_goesOnBehind_j43 rec o Z1
    unfold fX10_goesOnBehind_l0_b
    rw [gI_M L, sb, m8, if_pos rfl, rM23 L, sb, gI_M L, sb, d22, aM23 L (by omega), sb, w1, if_neg (nI_ne0 (by omega) (by omega)), sb, sb, aM23 L (by omega), sb, w1, gK_M L, sb, show fX10_emit o (nI s) 0 X = some Z from z1, sb, rM23 LZ, sb, gI_M LZ, sb, z22, show (0 : Int32) = nI 0 from rfl, uM23 LZ (by omega), sb, ← hZ1]
/-- behind a part: until a part is due, or the end, or a fault -/
theorem m_behind (G : MG X o n kd pl) (hpl : ∀ j, j ≤ n → pl j ≤ 1000) {b i i0 : Nat} {σ : List Wt} {E : Ex} (hb : b ≤ i0 + 48) (A : AI kd n i0 (1, i, 0, σ, E)) (M : MA X o b (1, i, 0, σ, E)) : ∃ r X1 S1, fX10_goesOnBehind o X = some (r, X1) ∧ Rch kd pl (1, i, 0, σ, E) S1 ∧ MA X1 o b S1 ∧ mfm o KG X X1 ∧ Kp X X1 o b ∧ ((r = 1 ∧ S1.1 = 0 ∧ i < S1.2.1) ∨ (r = 0 ∧ S1.1 = 2) ∨ (r = 0 ∧ S1.1 = 3 ∧ 0 < S1.2.2.1 ∧ S1.2.2.1 ≤ 16005)) := by
  have hkd := G.2.2.2.2.1
  have hkn := G.2.2.2.2.2
  have key := iterP1 (b := fun rec => fX10_goesOnBehind_l0_b rec o) (z := fun _ => none) (fun m Z => ∃ S, Rch kd pl (1, i, 0, σ, E) S ∧ MA Z o b S ∧ mfm o KG X Z ∧ Kp X Z o b ∧ ((S.1 = 1 ∧ S.2.2.1 = 0 ∧ i ≤ S.2.1 ∧ m = S.2.2.2.1.length) ∨ (S.1 = 3 ∧ m = 0 ∧ 0 < S.2.2.1 ∧ S.2.2.1 ≤ 16005))) (fun y => ∃ S1, Rch kd pl (1, i, 0, σ, E) S1 ∧ MA y.2 o b S1 ∧ mfm o KG X y.2 ∧ Kp X y.2 o b ∧ ((y.1 = 1 ∧ S1.1 = 0 ∧ i < S1.2.1) ∨ (y.1 = 0 ∧ S1.1 = 2) ∨ (y.1 = 0 ∧ S1.1 = 3 ∧ 0 < S1.2.2.1 ∧ S1.2.2.1 ≤ 16005))) ?_ FU σ.length X (FUlt (by have h4 : σ.length ≤ 6 := A.2.2.2.1; omega)) ⟨(1, i, 0, σ, E), Rch.rf _, M, mfm.rf, Kp.rf _ _ _, Or.inl ⟨rfl, rfl, Nat.le_refl _, rfl⟩⟩
  · obtain ⟨⟨r, X1⟩, g1, S1, g2⟩ := key
    exact ⟨r, X1, S1, g1, g2⟩
  rintro m Z ⟨S, hr, MZ, FZ, KZ, hS⟩
  have GZ := G.mf FZ KG_o
  rcases hS with ⟨s1, s0, si, rfl⟩ | ⟨s3, rfl, sf, sf2⟩
  · obtain ⟨m', i', f', σ', E'⟩ := S
    have s1 : m' = 1 := s1
    have s0 : f' = 0 := s0
    subst s1 s0
    have AS' := A.rc hkd hkn hr
    cases σ' with
    | nil => exact absurd rfl (AS'.2.2.2.2.2.2.1 (Or.inr (Or.inl rfl)))
    | cons t τ =>
      obtain ⟨s, g, a⟩ := t
      rcases m_l0 GZ hpl hb AS' MZ with ⟨X1, S1, a1, a2, a3, a4, a5, a6, a7⟩ | ⟨X1, S1, a1, a2, a3, a5, a6, a7⟩ | ⟨X1, S1, a1, a2, a3, a5, a6, a7⟩
      · left
        have si : i ≤ i' := si
        have a4 : S1.2.1 = i' + 1 := a4
        exact ⟨(1, X1), a1, S1, hr.tr a2, a5, FZ.tr a6, KZ.tr a7, Or.inl ⟨rfl, a3, by omega⟩⟩
      · left
        exact ⟨(0, X1), a1, S1, hr.tr a2, a5, FZ.tr a6, KZ.tr a7, Or.inr (Or.inl ⟨rfl, a3⟩)⟩
      · right
        rcases a3 with ⟨b1, b2, b3, b4⟩ | ⟨b1, b2⟩
        · have si : i ≤ i' := si
          have b2 : S1.2.1 = i' + 1 := b2
          exact ⟨S1.2.2.2.1.length, X1, b4, ⟨S1, hr.tr a2, a5, FZ.tr a6, KZ.tr a7, Or.inl ⟨b1, b3, by omega, rfl⟩⟩, a1⟩
        · exact ⟨0, X1, Nat.succ_pos _, ⟨S1, hr.tr a2, a5, FZ.tr a6, KZ.tr a7, Or.inr ⟨b1, rfl, b2⟩⟩, a1⟩
  · left
    have m8 := MZ.2.1
    refine ⟨(0, Z), fun rec => ?_, S, hr, MZ, FZ, KZ, Or.inr (Or.inr ⟨rfl, s3, sf, sf2⟩)⟩
    show fX10_goesOnBehind_l0_b rec o Z = _
    unfold fX10_goesOnBehind_l0_b
    rw [gI_M GZ.1, sb, m8, if_neg (nI_ne0 sf (by omega))]
theorem m_opens (L : LM X o) {d : Nat} (hd : d ≤ 5) (h22 : xI X o 22 = nI d) : ∃ X1, fX10_opens o X = some X1 ∧ mfm o [23, 24, 25] X X1 ∧ xA X1 (mA o 23) d = nI 0 ∧ xA X1 (mA o 24) d = nI 0 ∧ xA X1 (mA o 25) d = nI 0 ∧ ∀ k, k ∈ [23, 24, 25] → k < 57 → ∀ l, l ≠ d → xA X1 (mA o k) l = xA X (mA o k) l := by
  generalize hX1 : wF X (mA o 23) (va_up (xA X (mA o 23)) d (nI 0)) = X1
  have F1 : mfm o [23, 24, 25] X X1 := by rw [← hX1]; exact mfm.wF (by decide) (by decide) (by decide)
  have L1 := L.mf F1
  generalize hX2 : wF X1 (mA o 24) (va_up (xA X1 (mA o 24)) d (nI 0)) = X2
  have F2 : mfm o [23, 24, 25] X1 X2 := by rw [← hX2]; exact mfm.wF (by decide) (by decide) (by decide)
  have L2 := L1.mf F2
  generalize hX3 : wF X2 (mA o 25) (va_up (xA X2 (mA o 25)) d (nI 0)) = X3
  have F3 : mfm o [23, 24, 25] X2 X3 := by rw [← hX3]; exact mfm.wF (by decide) (by decide) (by decide)
  have a23 : xA X3 (mA o 23) = va_up (xA X (mA o 23)) d (nI 0) := by rw [← hX3, xA_wFm (by decide) (by decide) (by decide), ← hX2, xA_wFm (by decide) (by decide) (by decide), ← hX1, xA_wFe]
  have a24 : xA X3 (mA o 24) = va_up (xA X (mA o 24)) d (nI 0) := by rw [← hX3, xA_wFm (by decide) (by decide) (by decide), ← hX2, xA_wFe, ← hX1, xA_wFm (by decide) (by decide) (by decide)]
  have a25 : xA X3 (mA o 25) = va_up (xA X (mA o 25)) d (nI 0) := by rw [← hX3, xA_wFe, ← hX2, xA_wFm (by decide) (by decide) (by decide), ← hX1, xA_wFm (by decide) (by decide) (by decide)]
  refine ⟨X3, ?_, (F1.tr F2).tr F3, by rw [a23, upE], by rw [a24, upE], by rw [a25, upE], fun k hk hk57 l hl => ?_⟩
  · unfold fX10_opens
    rw [show (0 : Int32) = nI 0 from rfl, rM23 L, sb, gI_M L, sb, h22, uM23 L (by omega), sb, hX1, rM24 L1, sb, gI_M L1, sb, show xI X1 o 22 = nI d from by rw [F1.I (by decide)]; exact h22, uM24 L1 (by omega), sb, hX2, rM25 L2, sb, gI_M L2, sb, show xI X2 o 22 = nI d from by rw [F2.I (by decide), F1.I (by decide)]; exact h22, uM25 L2 (by omega), sb, hX3]
  · simp only [List.mem_cons, List.not_mem_nil, or_false] at hk
    rcases hk with rfl | rfl | rfl
    · rw [a23, upN hl]
    · rw [a24, upN hl]
    · rw [a25, upN hl]
end MEx3
